/** For each promise of the document its ordinary answers, its edges, and what it refuses. */
public final class PromisesTest {
    private static final int NONE = CompanyCourt.NONE;
    private static final int HIDDEN = CompanyCourt.HIDDEN;
    private static final String FOUR =
            "sm20c20;pl5b1h4;pl8b3h2;pl2b0h6;pl9b2h3;wa0v1g3;wa2v0g5;wa3v2g1";
    private static final String TWO = "p;p;w";
    private static final Check CHECK = new Check("PromisesTest");

    private static void due(String call, long got, long want) {
        CHECK.due(call, got, want);
    }

    private static void due(String call, boolean got, boolean want) {
        CHECK.due(call, got, want);
    }

    private static CompanyCourt four() {
        return Check.court(FOUR);
    }

    /** Owed then: 6 of 0 and 1, 14 of 0 and 2, 4 of 2 and 3. */
    private static CompanyCourt sentenced() {
        CompanyCourt x = four();
        for (int i = 0; i < 3; i++) {
            x.sentence(i);
        }
        return x;
    }

    /** So many evenings of 0 and 1, 0 and 2 .. as the digits tell, by a law of the grave alone and no lonely ones. */
    private static CompanyCourt owing(int people, String debts) {
        StringBuilder county = new StringBuilder();
        for (int i = 0; i < people; i++) {
            county.append(i == 0 ? "" : ";").append("pl0b0h0");
        }
        for (int i = 0; i < debts.length(); i += 3) {
            county.append(";wa").append(debts.charAt(i)).append('v').append(debts.charAt(i + 1)).append('g')
                    .append(debts.charAt(i + 2));
        }
        CompanyCourt x = new CompanyCourt();
        Check.text(x, 1, "y:g");
        x.law(0);
        Check.text(x, 0, county.toString());
        for (int i = 0; i < debts.length() / 3; i++) {
            x.sentence(i);
        }
        return x;
    }

    public static void main(String[] args) {
        promise1();
        promise2();
        promise3();
        faultsOfCounties();
        faultsOfLaws();
        faultsOfSessions();
        promise5();
        promise6();
        promise7();
        worthByLaws();
        promise8();
        promise9();
        promise10();
        promise11();
        promise12();
        promise13();
        promise14();
        promise15();
        promise16();
        promise17();
        promise18();
        promise19();
        promise20();
        promise21();
        promise22();
        promise23();
        promise24();
        promise25();
        promise26();
        promise27();
        promise28();
        promise29();
        promise30();
        promise31();
        promise32();
        promise33();
        promise34();
        promise35();
        promise36();
        promise37();
        promise38and39();
        promise40();
        CHECK.end();
    }

    private static void promise1() {
        CompanyCourt x = new CompanyCourt();
        due("NONE", NONE, -1);
        due("HIDDEN", HIDDEN, -1000000);
        int[] want = {0, 0, 0, 0, 0, NONE, 0, 0, 0, 3, 0, 0, 0, HIDDEN};
        for (int i = 0; i < want.length; i++) {
            due("new: count " + i, x.count(i), want[i]);
        }
        due("new: evening", x.evening(), NONE);
        due("new: image", x.image(), NONE);
        due("new: back", x.back(), NONE);
        due("new: undo", x.undo(), NONE);
    }

    private static void promise2() {
        CompanyCourt x = new CompanyCourt();
        due("feed p;p", x.feed(0x703B7000, 0, 0, 0, 0), 3);
        due("feed with 0 inside", x.feed(0x003B0070, 0, 0, 0x00FF0000, 0), 6);
        due("fault at byte 255", x.fault(0), 5);
        x.end(0);
        for (int i = 1; i <= 12; i++) {
            due("feed twenty", x.feed(0x01010101, 0x01010101, 0x01010101, 0x01010101, 0x81818181), 20 * i);
        }
        due("feed beyond 240", x.feed(0, 0, 0, 0, 1), NONE);
        due("nothing is fed", x.count(4), 240);
        due("feed nothing", x.feed(0, 0, 0, 0, 0), 240);
        x.end(239);
        due("feed two at 239", x.feed(0, 0x00200020, 0, 0, 0), NONE);
        due("feed two at 239", x.feed(0x00200020, 0, 0, 0, 0), NONE);
        due("feed two at 239", x.feed(0, 0, 0x20000020, 0, 0), NONE);
        due("feed two at 239", x.feed(0, 0, 0, 0x20000020, 0), NONE);
        due("feed two at 239", x.feed(1, 0, 0, 0, 1), NONE);
        due("feed one at 239", x.feed(0, 0x20000000, 0, 0, 0), 240);
        Check.tape(x, "pl1;pl2");
        x.text(0);
        due("the order of bytes", Check.person(x, 1, 0), 2);
    }

    private static void promise3() {
        CompanyCourt x = new CompanyCourt();
        due("end 0 of none", x.end(0), true);
        due("end 1 of none", x.end(1), false);
        Check.tape(x, "p;p;");
        due("end -1", x.end(-1), false);
        due("end 5 of 4", x.end(5), false);
        due("still 4", x.count(4), 4);
        due("end 4 of 4", x.end(4), true);
        due("end 3", x.end(3), true);
        due("3 then", x.count(4), 3);
        due("p;p", x.fault(0), NONE);
    }

    private static void faultOf(int sort, String text, int want) {
        due("fault " + sort + " of '" + text + "'", Check.fault(sort, text), want);
    }

    private static void faultsOfCounties() {
        faultOf(-1, "p;p", -2);
        faultOf(3, "p;p", -2);
        faultOf(0, "p;p", NONE);
        faultOf(0, "   ", 3);
        faultOf(0, " p ; p ", NONE);
        faultOf(0, "p", 1);
        faultOf(0, "p ; p ;  ", 9);
        faultOf(0, "P;p", 0);
        faultOf(0, "p,p", 1);
        faultOf(0, "p;;p", 2);
        faultOf(0, "sm30c99;p;p", NONE);
        faultOf(0, "sm31;p;p", 3);
        faultOf(0, "sm0;p;p", 2);
        faultOf(0, "sm00;p;p", 3);
        faultOf(0, "sm01c00;p;p", NONE);
        faultOf(0, "sm010;p;p", 4);
        faultOf(0, "sm999;p;p", 4);
        faultOf(0, "s c 9 9 ;p;p", 6);
        faultOf(0, "sl1;p;p", 1);
        faultOf(0, "sm1m2;p;p", 3);
        faultOf(0, "sm;p;p", 2);
        faultOf(0, "sm ", 3);
        faultOf(0, "s;p;p;s", 6);
        faultOf(0, "pl9b9h9;pl0b0h0", NONE);
        faultOf(0, "pl10;p", 3);
        faultOf(0, "pb12;p", 3);
        faultOf(0, "ph123;p", 4);
        faultOf(0, "pl09;p", NONE);
        faultOf(0, "pa1;p", 1);
        faultOf(0, "p;p;p;p;p;p", NONE);
        faultOf(0, "p;p;p;p;p;p;p", 12);
        faultOf(0, "w;w;w;w;w;w;w;w;p;p", NONE);
        faultOf(0, "w;w;w;w;w;w;w;w;p;p;w", 20);
        faultOf(0, "wa6;p;p", 2);
        faultOf(0, "wa05v0;p;p;p;p;p;p", NONE);
        faultOf(0, "wg0;p;p", 2);
        faultOf(0, "wg9;p;p", NONE);
        faultOf(0, "wg10;p;p", 3);
        faultOf(0, "p;p;wa2", 7);
        faultOf(0, "p;p;wv2 ", 8);
        faultOf(0, "p;p;wa1", 7);
        faultOf(0, "p;p;wa1v0", NONE);
        faultOf(0, "wv5;p;p", 7);
        faultOf(0, "wv1a1;p;p;x", 10);
        faultOf(0, "wc1;p;p", 1);
    }

    private static void faultsOfLaws() {
        faultOf(1, "", 0);
        faultOf(1, "y:1", NONE);
        faultOf(1, " y : g + 1 ", NONE);
        faultOf(1, "y", 1);
        faultOf(1, "yy", 1);
        faultOf(1, "y:1;", 4);
        faultOf(1, "y:9999", NONE);
        faultOf(1, "y:00000", 6);
        faultOf(1, "y:1 2", 4);
        faultOf(1, "y:g", NONE);
        faultOf(1, "y:gh", 3);
        faultOf(1, "y:c", 2);
        faultOf(1, "y:-1", 2);
        faultOf(1, "y:1+", 4);
        faultOf(1, "y:1+*", 4);
        faultOf(1, "y:[1", 4);
        faultOf(1, "y:[1]", NONE);
        faultOf(1, "y:[1)", 4);
        faultOf(1, "y:[g>1]", 4);
        faultOf(1, "y:g>1", 5);
        faultOf(1, "y:g>1;y:1", 5);
        faultOf(1, "y:g>1?", 6);
        faultOf(1, "y:g>1?h", NONE);
        faultOf(1, "y:g>1?h>1", 7);
        faultOf(1, "y:g>1>2?h", 5);
        faultOf(1, "y:g?h", 3);
        faultOf(1, "y:g&h>1?1", 3);
        faultOf(1, "y:g>1&h?1", 7);
        faultOf(1, "y:g>1|h<2&!n=3?d", NONE);
        faultOf(1, "y:(g>1)?1", NONE);
        faultOf(1, "y:(g)?1", 4);
        faultOf(1, "y:(1+2)*3", 6);
        faultOf(1, "y:(g>1)", 7);
        faultOf(1, "y:!g", 4);
        faultOf(1, "y:g>(1)?1", 4);
        faultOf(1, "y:g>1?(1)", 6);
        faultOf(1, "y:g>1?!1", 6);
        faultOf(1, "y:!!!!!!g=1?1", NONE);
        faultOf(1, "y:((((((g=1))))))?1", NONE);
        faultOf(1, "y:(((((((g=1)))))))?1", 8);
        faultOf(1, "y:[[[[[[1]]]]]]", NONE);
        faultOf(1, "y:[[[[[[[1]]]]]]]", 8);
        faultOf(1, "y:(!(!([1]=[[1]]))))?1", 12);
        faultOf(1, "y:(!(!([1]=[1]))&[1]=[1])?[1]", NONE);
        faultOf(1, "y:!!!!!!g=[1]?1", 10);
        faultOf(1, "y:!!!!!!g=1&!!!!!!g=1?[[[[[[1]]]]]]", NONE);
    }

    private static void faultsOfSessions() {
        faultOf(2, "", 0);
        faultOf(2, "e", NONE);
        faultOf(2, "s9", NONE);
        faultOf(2, "s", 1);
        faultOf(2, "s12", 2);
        faultOf(2, "s 1 ; a 0 9 ; p 5 5", NONE);
        faultOf(2, "a1", 2);
        faultOf(2, "a123", 3);
        faultOf(2, "a1;", 2);
        faultOf(2, "e;", 2);
        faultOf(2, "e1", 1);
        faultOf(2, "x", 0);
        faultOf(2, "e;e;e;e;e;e;e;e;e;e;e;e;e;e;e;e", NONE);
        faultOf(2, "e;e;e;e;e;e;e;e;e;e;e;e;e;e;e;e;", 31);
        faultOf(2, "e;e;e;e;e;e;e;e;e;e;e;e;e;e;e;e x", 32);
    }

    private static void promise5() {
        CompanyCourt x = new CompanyCourt();
        due("text of a fault", Check.text(x, 0, "p"), NONE);
        due("the tape stays", x.count(4), 1);
        due("text of no sort", x.text(3), NONE);
        due("text of no sort", Check.text(x, 3, "e"), NONE);
        due("text of no sort", Check.text(x, -1, "p;p"), NONE);
        Check.tape(x, "p");
        due("text of no sort", x.text(-1), NONE);
        for (int i = 0; i < 4; i++) {
            due("law", Check.text(x, 1, "y:" + i), i);
            due("session", Check.text(x, 2, "s" + i), i);
        }
        due("the tape is empty", x.count(4), 0);
        due("fifth law", Check.text(x, 1, "y:4"), NONE);
        due("fifth session", Check.text(x, 2, "s4"), NONE);
        due("the tape stays", x.count(4), 2);
        due("four laws", x.count(2), 4);
        due("four sessions", x.count(3), 4);
        due("the third session is the same", x.step(3, 0, 1), 3);
        due("county", Check.text(x, 0, FOUR), 4);
        x.law(2);
        x.sin(7);
        x.sentence(0);
        x.given(0, 1, true);
        x.years(2, 1);
        x.image();
        due("another county", Check.text(x, 0, TWO), 2);
        int[] want = {2, 1, 4, 4, 0, 2, 0, 20, 20, 7, 0, 0, 0};
        for (int i = 0; i < want.length; i++) {
            due("another county: count " + i, x.count(i), want[i]);
        }
        due("another county: back", x.back(), NONE);
        due("another county: owed", x.all(5), 0);
        due("another county: due", x.all(4), 1);
        due("a refused county changes nothing", Check.text(x, 0, "p;p;wa1"), NONE);
        due("a refused county: persons", x.count(0), 2);
        due("a refused county: wrongs", x.wrong(0, 0), 0);
    }

    private static void promise6() {
        CompanyCourt x = sentenced();
        int[] want = {5, 1, 4, 20};
        for (int i = 0; i < 4; i++) {
            due("person 0 " + i, Check.person(x, 0, i), want[i]);
        }
        due("person -1", Check.person(x, -1, 0), Check.THROWN);
        due("person 4", Check.person(x, 4, 0), Check.THROWN);
        due("person, what 4", Check.person(x, 0, 4), Check.THROWN);
        due("person, what -1", Check.person(x, 0, -1), Check.THROWN);
        due("no county", Check.person(new CompanyCourt(), 0, 0), Check.THROWN);
        CompanyCourt y = Check.court(TWO);
        due("lonely without", Check.person(y, 1, 0), 4);
        due("bore without", Check.person(y, 1, 1), 2);
        due("hard without", Check.person(y, 1, 2), 3);
    }

    private static void promise7() {
        CompanyCourt x = four();
        int[] want = {2, 0, 5, 0, 14};
        for (int i = 0; i < 5; i++) {
            due("wrong 1 " + i, x.wrong(1, i), want[i]);
        }
        due("wrong 1 5", x.wrong(1, 5), NONE);
        due("wrong 1 -1", x.wrong(1, -1), NONE);
        due("wrong 3", x.wrong(3, 0), NONE);
        due("wrong -1", x.wrong(-1, 0), NONE);
        x.sentence(1);
        due("wrong 1 sentenced", x.wrong(1, 3), 1);
        due("lonely by 2 is cut", Check.court("pl3h1;pl3;wg4").wrong(0, 4), 8);
        due("held within the most", Check.court("sm5;ph9;p;wg9").wrong(0, 4), 5);
        due("held within 1", Check.court("ph0;pl9;wg1").wrong(0, 4), 1);
        CompanyCourt y = Check.court(TWO);
        due("wrong without letters", y.wrong(0, 0), 0);
        due("wrong without letters", y.wrong(0, 1), 1);
        due("wrong without letters", y.wrong(0, 2), 3);
        y.lunch(0, 1);
        due("worth as now", y.wrong(0, 4), 8);
    }

    private static void worth(String law, int want) {
        CompanyCourt x = Check.court("sm30;pl1b2h3;pl4b5h6;wa1v0g9;wa1v0g1");
        Check.text(x, 1, law);
        x.law(0);
        due("worth by " + law, x.wrong(0, 4), want);
    }

    private static void worthByLaws() {
        worth("y:g", 9);
        worth("y:h", 6);
        worth("y:l+1", 2);
        worth("y:b", 2);
        worth("y:n+d", 1);
        worth("y:2+3*4", 14);
        worth("y:[2+3]*4", 20);
        worth("y:20-3-4", 13);
        worth("y:20/3/2", 3);
        worth("y:20/6*2", 6);
        worth("y:[1-8]/2+10", 7);
        worth("y:7/0+5", 5);
        worth("y:9999*9999-9999*100-90", 10);
        worth("y:9999*9999*9999/9999/10", 10);
        worth("y:[0-9999]*9999*9999/9999/10+15", 5);
        worth("y:9999*9999+9999-9999*99-9999-90", 10);
        worth("y:100", 30);
        worth("y:0-5", 1);
        worth("y:g>8?11;y:12", 11);
        worth("y:g>9?11;y:12", 12);
        worth("y:g<9?11;y:h=6?13;y:12", 13);
        worth("y:g=1?20", 1);
        worth("y:g=1&h=1|b=2?11;y:12", 11);
        worth("y:b=2|g=1&h=1?11;y:12", 11);
        worth("y:(b=2|g=1)&h=1?11;y:12", 12);
        worth("y:!g=1&h=6?11;y:12", 11);
        worth("y:!(g=1|h=6)?11;y:12", 12);
        worth("y:!!g=9?11;y:12", 11);
        worth("y:[g+h]*2>29&[g]=9?11;y:12", 11);
        worth("y : g > 8 ? 1 + 10 ; y : 12", 11);
        CompanyCourt x = Check.court("p;p;wa0v1;wa0v1;wa1v0");
        Check.text(x, 1, "y:n*10+d+1");
        x.law(0);
        due("n and d", x.sentence(0), 1);
        x.evening();
        due("n counts his own", x.wrong(1, 4), 12);
        due("n counts himself", x.wrong(0, 4), 12);
        due("n counts not others", x.wrong(2, 4), 2);
    }

    private static void promise8() {
        CompanyCourt x = new CompanyCourt();
        due("law none", x.law(NONE), true);
        due("law 0", x.law(0), false);
        Check.text(x, 1, "y:7");
        due("no law holds yet", x.count(5), NONE);
        due("law 0", x.law(0), true);
        due("law 1", x.law(1), false);
        due("law -2", x.law(-2), false);
        due("law 0 holds", x.count(5), 0);
        Check.text(x, 0, TWO);
        due("worth by it", x.wrong(0, 4), 7);
        due("law none", x.law(NONE), true);
        due("worth without", x.wrong(0, 4), 7);
        due("none holds", x.count(5), NONE);
    }

    private static void promise9() {
        CompanyCourt x = new CompanyCourt();
        due("sin 3", x.sin(3), false);
        due("sin 10", x.sin(10), false);
        due("sin -1", x.sin(-1), false);
        due("sin 9", x.sin(9), true);
        due("sin 9", x.sin(9), false);
        due("sin is 9", x.count(9), 9);
        due("sin 0", x.sin(0), true);
    }

    private static void promise10() {
        CompanyCourt x = four();
        due("sentence 3", x.sentence(3), NONE);
        due("sentence -1", x.sentence(-1), NONE);
        due("nothing to undo", x.count(12), 0);
        due("sentence 0", x.sentence(0), 6);
        due("sentence 0 again", x.sentence(0), NONE);
        due("one act", x.count(12), 1);
        due("no county", new CompanyCourt().sentence(0), NONE);
        CompanyCourt y = Check.court("sm30;ph9;p;wg9;wg9;wg9;wa1v0g9");
        due("25", y.sentence(0), 25);
        due("50", y.sentence(1), 50);
        due("75", y.sentence(2), 75);
        due("94, whoever did it", y.sentence(3), 94);
        CompanyCourt z = Check.court("sm30;ph9;pl0;wg9;wg9;wg9;wg9");
        for (int i = 0; i < 3; i++) {
            z.sentence(i);
        }
        due("99 at most", z.sentence(3), 99);
    }

    private static void promise11() {
        CompanyCourt x = sentenced();
        due("evening", x.evening(), 2);
        due("0 and 2 sat", x.owed(0, 2), 13);
        due("0 and 1 did not", x.owed(0, 1), 6);
        due("2 and 3 owe one more by the window", x.owed(2, 3), 5);
        due("1 and 3 owe by the window", x.owed(1, 3), 1);
        int[] lonely = {4, 9, 1, 5};
        for (int i = 0; i < 4; i++) {
            due("lonely " + i, Check.person(x, i, 0), lonely[i]);
        }
        due("windows", x.all(7), 1);
        due("evening 1", x.count(6), 1);
        due("no county", new CompanyCourt().evening(), NONE);
        CompanyCourt y = Check.court("pl0;pl0;w");
        y.sentence(0);
        y.evening();
        due("lonely 0 at least", Check.person(y, 0, 0), 0);
        CompanyCourt z = Check.court("pl9;pl9");
        due("nobody sat", z.evening(), 0);
        due("both broke", z.owed(0, 1), 2);
        due("all of four sit", owing(4, "015234").evening(), 4);
        CompanyCourt end = Check.court("p;p");
        for (int i = 0; i < 33; i++) {
            end.years(30, i);
        }
        end.years(9, 1);
        due("evening 999", end.count(6), 999);
        due("beyond 999", end.evening(), NONE);
        due("beyond 999", end.years(1, 1), NONE);
    }

    private static void promise12() {
        CompanyCourt x = sentenced();
        due("appeal 14", x.appeal(0, 2), 7);
        due("appeal 7", x.appeal(2, 0), 4);
        due("coins", x.count(7), 16);
        due("alike", x.appeal(0, 0), NONE);
        due("no such", x.appeal(0, 4), NONE);
        due("no such", x.appeal(-1, 0), NONE);
        due("they owe none", x.appeal(1, 3), NONE);
        CompanyCourt y = Check.court("sc4;pl9;pl9;w");
        y.evening();
        due("two of two", y.appeal(0, 1), 1);
        due("one only", y.appeal(0, 1), NONE);
        y.sentence(0);
        due("coins left", y.count(7), 2);
        due("coins enough", y.appeal(0, 1), 4);
        due("too few coins", y.appeal(0, 1), NONE);
    }

    private static void promise13() {
        CompanyCourt x = sentenced();
        due("pardon", x.pardon(3, 2), 4);
        x.evening();
        due("pardon of one", x.pardon(3, 1), 1);
        x.undo();
        x.undo();
        due("owed then", x.owed(2, 3), 0);
        due("coins", x.count(7), 16);
        due("they owe none", x.pardon(3, 2), NONE);
        due("alike", x.pardon(2, 2), NONE);
        due("no such", x.pardon(4, 2), NONE);
        due("no such", x.pardon(2, -1), NONE);
        CompanyCourt y = Check.court("sc3;p;p;w");
        y.sentence(0);
        due("too few coins", y.pardon(0, 1), NONE);
        y.give(1);
        due("enough", y.pardon(0, 1), 7);
        due("all gone", y.count(7), 0);
    }

    private static void promise14() {
        CompanyCourt x = Check.court("sc3;pl1;pl5;pl0");
        due("lunch", x.lunch(1, 0), 3);
        due("the other one", Check.person(x, 0, 0), 0);
        due("a coin", x.count(7), 2);
        due("both are 0", x.lunch(0, 2), NONE);
        due("one is 0", x.lunch(0, 1), 0);
        due("alike", x.lunch(1, 1), NONE);
        due("no such", x.lunch(3, 1), NONE);
        due("no such", x.lunch(1, -1), NONE);
        due("again", x.lunch(1, 2), 0);
        due("coins", x.count(7), 0);
        due("too few coins", Check.court("sc0;p;p").lunch(0, 1), NONE);
    }

    private static void promise15() {
        CompanyCourt x = Check.court("sc8;pb2;pb0");
        due("teach", x.teach(0), 1);
        due("coins", x.count(7), 5);
        due("none", x.teach(1), NONE);
        due("no such", x.teach(2), NONE);
        due("no such", x.teach(-1), NONE);
        due("teach", x.teach(0), 0);
        x.give(50);
        due("none any more", x.teach(0), NONE);
        due("too few coins", Check.court("sc2;p;p").teach(0), NONE);
        due("just enough", Check.court("sc3;p;p").teach(0), 1);
    }

    private static void promise16() {
        due("no county", new CompanyCourt().give(1), NONE);
        CompanyCourt x = Check.court("sc99;p;p");
        due("give 0", x.give(0), NONE);
        due("give -1", x.give(-1), NONE);
        due("give 51", x.give(51), NONE);
        for (int i = 1; i <= 18; i++) {
            due("give 50", x.give(50), 99 + 50 * i);
        }
        due("1000", x.give(1), NONE);
        x.undo();
        due("give 1", x.give(1), 950);
        due("give 49", x.give(49), 999);
    }

    private static int draw(long[] x, int j) {
        x[0] = x[0] * 6364136223846793005L + 1442695040888963407L;
        return (int) ((x[0] >>> 33) % j);
    }

    private static void promise17() {
        due("no county", new CompanyCourt().years(1, 1), NONE);
        CompanyCourt x = Check.court("p;p;p");
        due("years 0", x.years(0, 1), NONE);
        due("years 31", x.years(31, 1), NONE);
        due("years 30", x.years(30, 1), 30);
        due("an act each", x.count(12), 30);
        for (int seed = -20; seed < 20; seed++) {
            CompanyCourt y = Check.court("pl0;pl0;pl0");
            y.sin(9);
            long[] s = {seed};
            int owed = 0;
            if (draw(s, 10) < 9) {
                int a = draw(s, 3);
                int b = draw(s, 3);
                int much = draw(s, 9) + 1;
                owed = a == b ? 0 : much - 1;
            }
            due("year of seed " + seed, y.years(1, seed), 1);
            due("owed by seed " + seed, y.all(5), owed);
        }
        CompanyCourt none = Check.court("pl0;pl0;pl0");
        none.sin(0);
        none.years(9, 5);
        due("without sin nothing", none.all(5), 0);
        due("but loneliness", Check.person(none, 0, 0), 9);
    }

    private static void promise18() {
        CompanyCourt x = sentenced();
        x.evening();
        x.teach(0);
        x.lunch(0, 1);
        due("undo the lunch", x.undo(), 5);
        due("lonely again", Check.person(x, 1, 0), 9);
        due("undo the teaching", x.undo(), 4);
        due("a bore again", Check.person(x, 0, 1), 1);
        due("coins again", x.count(7), 20);
        due("undo the evening", x.undo(), 3);
        due("no log", x.count(11), 0);
        due("no window", x.all(7), 0);
        due("evening 0", x.count(6), 0);
        due("owed again", x.owed(0, 2), 14);
        due("undo the third sentence", x.undo(), 2);
        due("not sentenced", x.wrong(2, 3), 0);
        due("undo the second", x.undo(), 1);
        due("undo the first", x.undo(), 0);
        due("nothing owed", x.all(5), 0);
        due("none", x.undo(), NONE);
        CompanyCourt y = Check.court("p;p");
        y.years(30, 1);
        y.years(30, 2);
        due("40 at most", y.count(12), 40);
        int log = y.log(50, 2);
        y.evening();
        y.evening();
        for (int i = 39; i >= 0; i--) {
            due("undo of many", y.undo(), i);
        }
        due("no more", y.undo(), NONE);
        due("evening then", y.count(6), 22);
        due("log then", y.count(11), 22);
        due("an old note is there again", y.log(12, 2), log);
    }

    private static void promise19() {
        CompanyCourt x = sentenced();
        due("no log", x.log(0, 0), NONE);
        x.evening();
        x.evening();
        int[][] want = {{4, 0, 24}, {2, 8, 26}};
        for (int i = 0; i < 2; i++) {
            for (int what = 0; what < 3; what++) {
                due("log " + i + " " + what, x.log(i, what), want[i][what]);
            }
        }
        due("log 2", x.log(2, 0), NONE);
        due("log -1", x.log(-1, 0), NONE);
        due("what 3", x.log(0, 3), NONE);
        due("what -1", x.log(0, -1), NONE);
        x.years(30, 3);
        x.years(30, 4);
        due("60 at most", x.count(11), 60);
        due("the sixtieth", x.log(59, 0) == NONE, false);
        due("beyond", x.log(60, 0), NONE);
        due("two broke", both().log(0, 1), 3);
        CompanyCourt end = at998();
        end.evening();
        due("the last evening", end.log(0, 0), 2);
        due("the last evening", end.log(0, 2), 8);
    }

    private static CompanyCourt both() {
        CompanyCourt x = Check.court("pl9;pl9");
        x.evening();
        return x;
    }

    private static void promise20() {
        CompanyCourt x = new CompanyCourt();
        due("no session", x.step(0, 0, 0), HIDDEN);
        Check.text(x, 2, "s 7;e;a01;p 5 4");
        int[][] want = {{0, 7, NONE}, {1, NONE, NONE}, {2, 0, 1}, {3, 5, 4}};
        for (int i = 0; i < 4; i++) {
            for (int what = 0; what < 3; what++) {
                due("step " + i + " " + what, x.step(0, i, what), want[i][what]);
            }
        }
        due("step 4", x.step(0, 4, 0), HIDDEN);
        due("step -1", x.step(0, -1, 0), HIDDEN);
        due("what 3", x.step(0, 0, 3), HIDDEN);
        due("what -1", x.step(0, 0, -1), HIDDEN);
        due("session 1", x.step(1, 0, 0), HIDDEN);
        due("session -1", x.step(-1, 0, 0), HIDDEN);
    }

    private static CompanyCourt withSessions(String... sessions) {
        CompanyCourt x = four();
        for (String s : sessions) {
            Check.text(x, 2, s);
        }
        return x;
    }

    private static void promise21() {
        CompanyCourt x = withSessions("s0;s1;e;e;a01;p02", "s0;e;s0;e;e;e", "p12", "s8;e");
        due("all can be", x.run(0, 0), NONE);
        due("windows", x.run(0, 1), 1);
        due("sentenced twice", x.run(1, 0), 2);
        due("windows up to there", x.run(1, 1), 1);
        due("at once", x.run(2, 0), 0);
        due("no such wrong", x.run(3, 0), 0);
        due("apart", x.count(12) + x.count(6) + x.all(5), 0);
        due("no session", x.run(4, 0), HIDDEN);
        due("no session", x.run(-1, 0), HIDDEN);
        due("no what", x.run(0, 2), HIDDEN);
        due("no what", x.run(0, -1), HIDDEN);
        CompanyCourt y = new CompanyCourt();
        Check.text(y, 2, "e");
        due("no county", y.run(0, 0), HIDDEN);
        Check.text(y, 0, "p;p");
        for (int i = 0; i < 33; i++) {
            y.years(30, i);
        }
        y.years(8, 1);
        due("evening 998", y.run(0, 0), NONE);
        y.evening();
        due("evening 999", y.run(0, 0), 0);
        CompanyCourt coins = withSessions("s1;p02;s0;p01;s2;p23;e");
        coins.give(3);
        for (int i = 0; i < 4; i++) {
            coins.lunch(0, 1);
        }
        for (int i = 0; i < 2; i++) {
            coins.teach(3);
        }
        due("coins", coins.count(7), 13);
        due("coins enough", coins.run(0, 0), NONE);
        coins.teach(1);
        due("too few coins for the third pardon", coins.run(0, 0), 5);
    }

    private static void promise22() {
        CompanyCourt x = withSessions("s0;s1;e;e;a02;p01;p01;e", "p12", "e");
        due("do", x.perform(0), 6);
        due("acts", x.count(12), 6);
        due("evenings", x.count(6), 2);
        due("log", x.count(11), 2);
        due("coins", x.count(7), 14);
        due("nothing can be", x.perform(1), 0);
        due("no act", x.count(12), 6);
        due("undo", x.undo(), 5);
        due("the pardon is undone", x.owed(0, 1) > 0, true);
        due("no session", x.perform(3), NONE);
        due("no session", x.perform(-1), NONE);
        due("one step", x.perform(2), 1);
        CompanyCourt y = new CompanyCourt();
        Check.text(y, 2, "e");
        due("no county", y.perform(0), NONE);
    }

    private static void promise23() {
        CompanyCourt x = sentenced();
        due("owed", x.owed(0, 2), 14);
        due("owed", x.owed(2, 0), 14);
        due("none", x.owed(1, 3), 0);
        due("alike", x.owed(1, 1), NONE);
        due("no such", x.owed(1, 4), NONE);
        due("no such", x.owed(-1, 1), NONE);
        due("no county", new CompanyCourt().owed(0, 1), NONE);
    }

    private static void promise24() {
        due("no county", new CompanyCourt().tonight(), NONE);
        due("0 and 2", sentenced().tonight(), 2909);
        due("apart", sentenced().all(5), 24);
        due("of several the lowest", owing(4, "015025035125").tonight(), 1099);
        due("the lowest other one", owing(4, "025035").tonight(), 2909);
        due("the most first", owing(4, "015126234").tonight(), 9219);
        due("then likewise", owing(6, "014125343454").tonight(), 921954);
        due("nobody", owing(3, "").tonight(), 999);
        CompanyCourt end = at998();
        end.evening();
        due("behind 999", end.tonight(), 10);
        due("behind 999 too", end.served(), 8);
        due("behind 999 too", end.all(8), 0);
        due("but no act", end.evening(), NONE);
    }

    /** The evening is 998, and two owe one another 9. */
    private static CompanyCourt at998() {
        CompanyCourt x = new CompanyCourt();
        Check.text(x, 1, "y:9");
        x.law(0);
        Check.text(x, 0, TWO);
        for (int i = 0; i < 33; i++) {
            x.years(30, i);
        }
        x.years(8, 1);
        x.pardon(0, 1);
        x.sentence(0);
        return x;
    }

    private static void promise25() {
        due("no county", new CompanyCourt().served(), NONE);
        due("none owed", four().served(), 0);
        due("7", sevenOwed().served(), 7);
        due("apart", sevenOwed().all(5), 7);
        due("four at once", owing(4, "015235").served(), 5);
        due("windows and all", Check.court("pl9;pl9;p;p").served(), 0);
        CompanyCourt x = Check.court("pl9;pl9;w");
        x.evening();
        due("2", x.served(), 2);
        CompanyCourt y = Check.court("sm30;pl0h9;pl0h9;pl9;wg9;wg9;wg9;wg9");
        for (int i = 0; i < 4; i++) {
            y.sentence(i);
        }
        due("not within 99", y.served(), NONE);
        CompanyCourt z = Check.court("sm30;pl0h9;pl0h9;wg9;wg9;wg9;wg9");
        for (int i = 0; i < 4; i++) {
            z.sentence(i);
        }
        due("99", z.served(), 99);
        CompanyCourt hundred = Check.court("sm30;pl4;pl4;pl4;wg3;wg2;wv2g3;wv2g2");
        Check.text(hundred, 1, "y:g*10");
        hundred.law(0);
        for (int i = 0; i < 4; i++) {
            hundred.sentence(i);
        }
        due("100 are too many", hundred.served(), NONE);
        hundred.evening();
        due("99 are not", hundred.served(), 99);
    }

    private static CompanyCourt sevenOwed() {
        CompanyCourt x = Check.court(TWO);
        x.sentence(0);
        return x;
    }

    private static void promise26() {
        due("no county", new CompanyCourt().sooner(), NONE);
        due("none", four().sooner(), 0);
        due("by one", sentenced().sooner(), 20);
        due("by three", owing(3, "013023123").sooner(), 9);
        due("by three of four", owing(4, "013023123031").sooner(), 9);
        due("by five, cut upwards", owing(5, "011021121341131").sooner(), 3);
        due("by five", owing(5, "012122232342042").sooner(), 5);
        due("by five of six", owing(6, "122232342452152").sooner(), 5);
        due("by five of six, cut upwards", owing(6, "123233342452152").sooner(), 6);
    }

    private static void promise27() {
        due("no county", new CompanyCourt().matched(0), NONE);
        CompanyCourt x = sentenced();
        due("row", x.matched(0), 1032);
        due("much", x.matched(1), 24);
        due("no what", x.matched(2), NONE);
        due("no what", x.matched(-1), NONE);
        due("none owed", four().matched(0), 9999);
        due("none owed", four().matched(1), 0);
        due("of several the least row", owing(4, "011231021131").matched(0), 1032);
        due("nobody is lonely", owing(3, "121").matched(0), 921);
        CompanyCourt y = Check.court("pl1;pl9;pl9;pl1;wa0v1;wa1v2;wa2v3");
        y.sentence(0);
        y.sentence(1);
        due("who could sit is left alone", y.matched(0), 9219);
        y.sentence(2);
        due("all of them", y.matched(0), 1032);
        due("how much", y.matched(1), 20);
    }

    private static void promise28() {
        due("no county", new CompanyCourt().firm(NONE), NONE);
        CompanyCourt x = four();
        due("how many", x.firm(NONE), 1);
        due("the first", x.firm(0), 2301);
        due("no second", x.firm(1), NONE);
        due("no such", x.firm(-2), NONE);
        CompanyCourt same = Check.court("pl0b0;pl0b0");
        due("either", same.firm(NONE), 2);
        due("rising", same.firm(0), 10);
        due("rising", same.firm(1), 99);
        CompanyCourt bores = Check.court("pl2b3;pl2b3;pl2b3");
        due("nobody", bores.firm(NONE), 1);
        due("nobody", bores.firm(0), 999);
        CompanyCourt alike = Check.court("pl5b2;pl5b2;pl5b2;pl5b2");
        due("the three of four", alike.firm(NONE), 3);
        due("the first", alike.firm(0), 1032);
        due("the second", alike.firm(1), 2301);
        due("the third", alike.firm(2), 3210);
    }

    private static void promise29() {
        due("no county", new CompanyCourt().given(0, 1, true), NONE);
        CompanyCourt x = four();
        due("no such", x.given(3, 1, true), NONE);
        due("no such", x.given(-1, 1, true), NONE);
        due("n 0", x.given(0, 0, true), NONE);
        due("n 31", x.given(0, 31, true), NONE);
        for (int i = 1; i <= 10; i++) {
            due("given", x.given(i % 3, 3 * i, true), i);
        }
        due("there are ten", x.given(0, 1, true), NONE);
        due("ten", x.count(10), 10);
        due("no act", x.undo(), NONE);
    }

    private static void promise30() {
        CompanyCourt x = four();
        due("all", x.graves(0, NONE), 9);
        due("the first", x.graves(0, 0), 1);
        due("the last", x.graves(0, 8), 9);
        due("beyond", x.graves(0, 9), NONE);
        due("no such", x.graves(0, -2), NONE);
        due("no such wrong", x.graves(3, NONE), NONE);
        due("no such wrong", x.graves(-1, NONE), NONE);
        x.given(0, 6, true);
        x.given(0, 13, false);
        x.given(1, 30, false);
        due("3 to 6", x.graves(0, NONE), 4);
        due("3", x.graves(0, 0), 3);
        due("6", x.graves(0, 3), 6);
        due("of another one", x.graves(1, NONE), 9);
        x.lunch(1, 0);
        x.sentence(0);
        x.evening();
        due("as told", x.graves(0, 0), 3);
        Check.text(x, 1, "y:n*9+d*9+g");
        x.law(0);
        due("nothing sentenced, evening 0", x.graves(0, 0), 6);
        due("nothing sentenced, evening 0", x.graves(0, NONE), 4);
    }

    private static void promise31() {
        CompanyCourt x = four();
        due("of nine", x.ask(0), 9);
        x.given(0, 6, true);
        due("of seven", x.ask(0), 11);
        x.given(0, 7, false);
        due("of one the least", x.ask(0), 1);
        x.given(0, 6, false);
        due("nothing fits", x.ask(0), NONE);
        CompanyCourt y = Check.court("sm30;p;p;w");
        Check.text(y, 1, "y:g+21");
        y.law(0);
        due("of 22 to 30", y.ask(0), 26);
        y.given(0, 29, true);
        due("of 29 and 30", y.ask(0), 30);
        due("no such wrong", x.ask(3), NONE);
        due("no such wrong", x.ask(-1), NONE);
    }

    private static void promise32() {
        CompanyCourt x = four();
        due("crime", x.crime(0, 1, 10), 5);
        due("crime of other ones", x.crime(2, 1, 10), 4);
        due("by none", x.crime(0, 1, 19), NONE);
        due("by nine", x.crime(0, 1, 18), 9);
        due("by any", x.crime(0, 1, 1), 1);
        due("n 0", x.crime(0, 1, 0), NONE);
        due("n 31", x.crime(0, 1, 31), NONE);
        due("alike", x.crime(1, 1, 1), NONE);
        due("no such", x.crime(4, 1, 1), NONE);
        due("no such", x.crime(1, -1, 1), NONE);
        CompanyCourt y = Check.court("sm30;p;p;w");
        Check.text(y, 1, "y:g+21");
        y.law(0);
        due("for 30", y.crime(1, 0, 30), 9);
        x.lunch(1, 0);
        x.lunch(1, 0);
        due("as now", x.crime(0, 1, 10), 4);
        Check.text(x, 1, "y:g=4|g=7?10;y:n*5");
        x.law(0);
        due("the least", x.crime(0, 1, 7), 4);
        x.sentence(0);
        due("sentenced already", x.crime(0, 1, 5), 1);
    }

    private static void promise33() {
        CompanyCourt x = four();
        due("name one another", x.game(0, 2, 2, 0, 0), 7);
        due("name one another", x.game(0, 2, 2, 0, 1), 3);
        due("the same one", x.game(0, 2, 1, 1, 0), -1);
        due("the same one", x.game(0, 2, 1, 1, 1), -4);
        due("one alone names the other", x.game(0, 2, 2, 1, 0), 5);
        due("himself", x.game(0, 2, 0, 3, 0), -9);
        due("one that is not there", x.game(0, 2, 4, 3, 0), -9);
        due("both the same that is not there", x.game(0, 2, 5, 5, 1), -12);
        due("both the first", x.game(0, 2, 0, 0, 0), -12);
        due("both the first", x.game(0, 2, 0, 0, 1), -2);
        due("alike", x.game(0, 0, 1, 1, 0), HIDDEN);
        due("no such", x.game(0, 4, 1, 1, 0), HIDDEN);
        due("no such", x.game(-1, 0, 1, 1, 0), HIDDEN);
        due("x 6", x.game(0, 1, 6, 1, 0), HIDDEN);
        due("y -1", x.game(0, 1, 1, -1, 0), HIDDEN);
        due("what 2", x.game(0, 1, 1, 1, 2), HIDDEN);
        due("what -1", x.game(0, 1, 1, 1, -1), HIDDEN);
        due("no county", new CompanyCourt().game(0, 1, 0, 1, 0), HIDDEN);
    }

    private static void promise34() {
        CompanyCourt x = four();
        due("how many", x.rests(0, 2, NONE), 1);
        due("the first", x.rests(0, 2, 0), 20);
        due("no second", x.rests(0, 2, 1), NONE);
        due("no such", x.rests(0, 2, -2), NONE);
        due("alike", x.rests(1, 1, NONE), NONE);
        due("no such", x.rests(1, 4, NONE), NONE);
        due("no county", new CompanyCourt().rests(0, 1, NONE), NONE);
        CompanyCourt y = Check.court("pl5b5;pl5b5;pl5b0;pl5b1");
        due("2 and 3 either way", y.rests(0, 1, NONE), 2);
        due("rising", y.rests(0, 1, 0), 23);
        due("rising", y.rests(0, 1, 1), 32);
        CompanyCourt z = Check.court("pl0b9;pl0b9");
        due("the other one, or himself twice", z.rests(0, 1, NONE), 2);
        due("himself each", z.rests(0, 1, 0), 1);
        due("one another", z.rests(0, 1, 1), 10);
    }

    private static void promise35() {
        due("no county", new CompanyCourt().odds(0, 1, 1), NONE);
        CompanyCourt x = four();
        due("at once", x.odds(3, 1, 50), 1000000000);
        due("no evening", x.odds(3, 0, 50), 0);
        due("not yet", x.odds(1, 1, 50), 0);
        due("8 behind two", x.odds(1, 2, 0), 1000000000);
        due("n 7", x.odds(1, 7, 0), NONE);
        due("n -1", x.odds(1, -1, 0), NONE);
        due("chance 101", x.odds(1, 1, 101), NONE);
        due("chance -1", x.odds(1, 1, -1), NONE);
        due("no such", x.odds(4, 1, 0), NONE);
        due("no such", x.odds(-1, 1, 0), NONE);
        CompanyCourt y = Check.court("pl9;pl0;w");
        y.sentence(0);
        due("in bed", y.odds(0, 1, 30), 300000000);
        due("never in bed", y.odds(0, 1, 0), 0);
        due("always in bed", y.odds(0, 1, 100), 1000000000);
        // In bed ahead of the first (30), or up and then in bed twice: lonely 8, 9, a window (70, 30 and 30 of 100).
        due("three evenings", y.odds(0, 3, 30), 363000000);
        due("apart", y.count(6), 0);
        // Five times in bed: 30000000, 900000, 27000, 810, 24 parts, where 24.3 would be.
        CompanyCourt z = Check.court("pl5;pl0;w");
        z.sentence(0);
        due("cut", z.odds(0, 5, 3), 24);
        due("no other way by six", z.odds(0, 6, 3), 24);
        due("of the one alone", z.odds(1, 6, 100), 0);
    }

    private static void promise36() {
        due("no county", new CompanyCourt().all(4), NONE);
        CompanyCourt x = four();
        int[] told = {3, 1, 2, 0, 7, 0, 15, 0, 0, 1, NONE};
        for (int i = 0; i < told.length; i++) {
            due("told: all " + i, x.all(i), told[i]);
        }
        due("all -1", x.all(-1), NONE);
        int[] then = {3, 1, 2, 0, 0, 24, 0, 0, 0, 2};
        CompanyCourt y = sentenced();
        for (int i = 0; i < then.length; i++) {
            due("sentenced: all " + i, y.all(i), then[i]);
        }
        CompanyCourt z = Check.court("pl4b5h6;pl4b5h6");
        for (int i = 0; i < 4; i++) {
            due("of several the lowest", z.all(i), 0);
        }
        due("never: all owe by their windows", Check.court("pl0;pl0;pl0").all(8), 0);
        due("never: two owe one another so many", owing(3, "019019019").all(8), 4);
        due("never: by the 21st alone", owing(3, "019019014").all(8), 4);
        due("never: not so many", owing(3, "019019").all(8), 0);
        due("the guiltiest", owing(4, "015234").all(3), 0);
        due("the guiltiest", owing(4, "014235").all(3), 2);
        due("free", owing(4, "015").all(6), 12);
        due("party of three", owing(4, "011121021231").all(9), 3);
        due("party of four", owing(6, "231241251341351451").all(9), 4);
        due("due", Check.court("p;p;w;w;w").all(4), 7);
    }

    private static void promise37() {
        CompanyCourt x = sentenced();
        due("wrongs of 0", x.circle(0, 0), 1);
        due("wrongs of 1", x.circle(1, 0), 0);
        due("wrongs against 0", x.circle(0, 1), 2);
        due("wrongs against 2", x.circle(2, 1), 4);
        due("circle of 0", x.circle(0, 2), 6);
        due("circle of 2", x.circle(2, 2), 9);
        due("no what", x.circle(0, 3), NONE);
        due("no what", x.circle(0, -1), NONE);
        due("no such", x.circle(4, 0), NONE);
        due("no such", x.circle(-1, 0), NONE);
        due("no county", new CompanyCourt().circle(0, 0), NONE);
    }

    private static void promise38and39() {
        CompanyCourt x = four();
        due("no image", x.back(), NONE);
        x.sentence(1);
        x.evening();
        due("image", x.image(), 1);
        x.evening();
        x.sentence(0);
        x.teach(0);
        x.lunch(0, 1);
        x.given(0, 6, true);
        x.sin(9);
        x.years(5, 8);
        due("back", x.back(), 1);
        due("nothing to undo", x.undo(), NONE);
        due("owed", x.owed(0, 2), 13);
        due("owed", x.owed(0, 1), 0);
        due("sentenced", x.all(4), 5);
        due("lonely", Check.person(x, 1, 0), 9);
        due("bore", Check.person(x, 0, 1), 1);
        due("coins", x.count(7), 20);
        due("windows", x.all(7), 1);
        due("log", x.count(11), 1);
        due("log", x.log(0, 1), 8);
        due("given stays", x.count(10), 1);
        due("sin stays", x.count(9), 9);
        x.evening();
        due("back again", x.back(), 1);
        x.evening();
        due("another image", x.image(), 2);
        x.evening();
        due("back to it", x.back(), 2);
        CompanyCourt y = Check.court("p;p");
        y.years(30, 1);
        y.years(30, 2);
        y.years(9, 3);
        y.image();
        int[] notes = new int[60];
        for (int i = 0; i < 60; i++) {
            notes[i] = y.log(i, 2) * 64 + y.log(i, 1);
        }
        for (int i = 0; i < 40; i++) {
            y.undo();
        }
        y.sin(9);
        y.years(30, 77);
        y.back();
        for (int i = 0; i < 60; i++) {
            due("note " + i, y.log(i, 2) * 64 + y.log(i, 1), notes[i]);
        }
    }

    private static void promise40() {
        CompanyCourt x = sentenced();
        x.give(7);
        x.evening();
        x.given(0, 1, true);
        x.given(0, 1, true);
        Check.text(x, 1, "y:1");
        Check.text(x, 1, "y:2");
        Check.text(x, 2, "e");
        x.law(1);
        Check.tape(x, "four");
        int[] want = {4, 3, 2, 1, 4, 1, 1, 27, 20, 3, 2, 1, 5};
        for (int i = 0; i < want.length; i++) {
            due("count " + i, x.count(i), want[i]);
        }
        due("count 13", x.count(13), HIDDEN);
        due("count -1", x.count(-1), HIDDEN);
        due("the most", Check.court("sm7;p;p").count(8), 7);
        due("coins", Check.court("sc7;p;p").count(7), 7);
    }
}
