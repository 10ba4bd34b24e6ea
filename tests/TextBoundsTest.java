import java.io.IOException;

/** Each sentence of Terms 1 and of promises 1 to 5 and 20 that names a boundary, with a test of its own. */
public final class TextBoundsTest {
    private static final int NONE = CompanyCourt.NONE;
    private static final int HIDDEN = CompanyCourt.HIDDEN;
    private static final int COUNTY = 0;
    private static final int LAW = 1;
    private static final int SESSION = 2;
    private static final Check CHECK = new Check("TextBoundsTest");

    public static void main(String[] args) throws IOException {
        constants();
        feeding();
        ending();
        sortsOfFaults();
        clausesOfCounties();
        itemsOfClauses();
        numbersOfRules();
        numbersOfPersons();
        numbersOfWrongs();
        howManyTexts();
        clausesOfLaws();
        conditionsOfLaws();
        sumsOfLaws();
        nesting();
        heldNumbers();
        division();
        firstClause();
        truths();
        stepsOfSessions();
        blanks();
        eachByte();
        faultsOfLength();
        faultsOfNumbers();
        faultsOfSignsThereWere();
        stepsThatAreNoFault();
        telling();
        noTraces();
        askingSteps();
        CHECK.end();
    }

    private static void says(String words) throws IOException {
        CHECK.says(words);
    }

    private static void due(String call, long got, long want) {
        CHECK.due(call, got, want);
    }

    private static void due(String call, boolean got, boolean want) {
        CHECK.due(call, got, want);
    }

    private static void fault(int sort, String text, int want) {
        due("fault " + sort + " of '" + text + "'", Check.fault(sort, text), want);
    }

    private static String times(int n, String text, String between) {
        StringBuilder s = new StringBuilder();
        for (int i = 0; i < n; i++) {
            s.append(i == 0 ? "" : between).append(text);
        }
        return s.toString();
    }

    private static void constants() throws IOException {
        says("The constants: `NONE = -1`: None; refused.");
        due("NONE", NONE, -1);
        says("`HIDDEN = -1000000`: Not told.");
        due("HIDDEN", HIDDEN, -1000000);
        says("`CompanyCourt()`: No COUNTY.");
        CompanyCourt x = new CompanyCourt();
        due("persons", x.count(0), 0);
        due("wrongs", x.count(1), 0);
        due("evening", x.evening(), NONE);
        due("all", x.all(5), NONE);
    }

    // ---- promises 2 and 3

    private static int feedOne(CompanyCourt x, int place, int number) {
        return x.feed(place == 0 ? number : 0, place == 1 ? number : 0, place == 2 ? number : 0, place == 3 ? number : 0,
                place == 4 ? number : 0);
    }

    /** A tape of so many bytes, all of them 1. */
    private static CompanyCourt ofBytes(int n) {
        CompanyCourt x = new CompanyCourt();
        for (int i = 0; i < n / 20; i++) {
            x.feed(0x01010101, 0x01010101, 0x01010101, 0x01010101, 0x01010101);
        }
        for (int i = 0; i < n % 20; i++) {
            x.feed(1, 0, 0, 0, 0);
        }
        return x;
    }

    private static void feeding() throws IOException {
        says("Twenty bytes more come to the TAPE");
        CompanyCourt x = new CompanyCourt();
        due("twenty", x.feed(0x706C3162, 0x3268333B, 0x706C3462, 0x3568363B, 0x77673720), 20);
        due("as a county", x.text(COUNTY), 2);
        due("the first", Check.person(x, 0, 0) * 100 + Check.person(x, 0, 1) * 10 + Check.person(x, 0, 2), 123);
        due("the second", Check.person(x, 1, 0) * 100 + Check.person(x, 1, 1) * 10 + Check.person(x, 1, 2), 456);
        due("the wrong", x.wrong(0, 2), 7);
        says("(of each number the highest first; bytes of 0 are left out): how many it has.");
        for (int place = 0; place < 5; place++) {
            CompanyCourt y = new CompanyCourt();
            due("highest first", feedOne(y, place, 0x703B7020), 4);
            due("p;p and a blank", y.fault(COUNTY), NONE);
            for (int shift = 0; shift < 32; shift += 8) {
                due("one byte of 1", feedOne(new CompanyCourt(), place, 1 << shift), 1);
                due("one byte of 255", feedOne(new CompanyCourt(), place, 255 << shift), 1);
                due("one byte of 0", feedOne(new CompanyCourt(), place, ~(255 << shift)), 3);
            }
        }
        due("nothing", new CompanyCourt().feed(0, 0, 0, 0, 0), 0);
        due("the lowest number", new CompanyCourt().feed(Integer.MIN_VALUE, 0, 0, 0, 0), 1);
        due("the highest number", new CompanyCourt().feed(Integer.MAX_VALUE, 0, 0, 0, -1), 8);
        says("NONE: more than 240.");
        due("240", ofBytes(239).feed(0, 0, 1, 0, 0), 240);
        due("241", ofBytes(239).feed(0, 0, 0x101, 0, 0), NONE);
        due("220 and 20", ofBytes(220).feed(-1, -1, -1, -1, -1), 240);
        due("221 and 20", ofBytes(221).feed(-1, -1, -1, -1, -1), NONE);
        due("240 and none", ofBytes(240).feed(0, 0, 0, 0, 0), 240);
        for (int place = 0; place < 5; place++) {
            due("240 and one", feedOne(ofBytes(240), place, 1), NONE);
        }
        CompanyCourt y = ofBytes(239);
        y.feed(0x01010101, 1, 1, 1, 1);
        due("none of what is too much", y.count(4), 239);
        says("What is refused answers as told and changes nothing.");
        CompanyCourt z = new CompanyCourt();
        Check.tape(z, "p;p;w" + times(234, " ", ""));
        due("239 bytes", z.feed(0x78787878, 0, 0, 0, 0), NONE);
        due("a county still", z.text(COUNTY), 2);
    }

    private static void ending() throws IOException {
        says("The TAPE has its first n bytes alone. False: n.");
        String text = "pl1;pl2;";
        for (int n = -1; n <= 9; n++) {
            CompanyCourt x = new CompanyCourt();
            Check.tape(x, text);
            due("end " + n, x.end(n), n >= 0 && n <= 8);
            due("how many then", x.count(4), n >= 0 && n <= 8 ? n : 8);
            due("its first ones", x.fault(COUNTY), Check.fault(COUNTY, text.substring(0, n >= 0 && n <= 8 ? n : 8)));
        }
        CompanyCourt x = new CompanyCourt();
        due("none of none", x.end(0), true);
        due("one of none", x.end(1), false);
        due("the lowest", x.end(Integer.MIN_VALUE), false);
        due("the highest", x.end(Integer.MAX_VALUE), false);
        CompanyCourt full = ofBytes(240);
        due("241 of 240", full.end(241), false);
        due("240 of 240", full.end(240), true);
        due("239 of 240", full.end(239), true);
        due("239 then", full.count(4), 239);
        due("what is cut is gone", full.end(240), false);
    }

    private static void sortsOfFaults() throws IOException {
        says("The FAULT of the TAPE as a COUNTY (0), a LAW (1), a SESSION (2). NONE: none. -2: no such sort.");
        int[] sorts = {Integer.MIN_VALUE, -2, -1, 3, 4, Integer.MAX_VALUE};
        for (int sort : sorts) {
            fault(sort, "p;p", -2);
            fault(sort, "", -2);
        }
        String[] texts = {"p;p", "y:1", "e"};
        int[][] want = {{NONE, 0, 1}, {0, NONE, 0}, {0, 0, NONE}};
        for (int i = 0; i < 3; i++) {
            for (int sort = 0; sort < 3; sort++) {
                fault(sort, texts[i], want[i][sort]);
            }
        }
        CompanyCourt x = new CompanyCourt();
        Check.tape(x, "p;p");
        x.fault(COUNTY);
        due("asked alone", x.count(0), 0);
        due("the tape is as it was", x.count(4), 3);
    }

    // ---- counties

    private static void clausesOfCounties() throws IOException {
        says("s (its RULES; one at most)");
        fault(COUNTY, "p;p", NONE);
        fault(COUNTY, "s;p;p", NONE);
        fault(COUNTY, "s;s;p;p", 2);
        fault(COUNTY, "sm1;p;p;sc1", 8);
        says("p (a PERSON; 2 .. 6)");
        for (int n = 1; n <= 8; n++) {
            fault(COUNTY, times(n, "p", ";"), n < 2 ? 1 : n <= 6 ? NONE : 12);
        }
        fault(COUNTY, "w", 1);
        fault(COUNTY, "s", 1);
        due("two", Check.court("p;p").count(0), 2);
        due("six", Check.court("p;p;p;p;p;p").count(0), 6);
        says("w (a WRONG; none to 8)");
        for (int n = 0; n <= 9; n++) {
            fault(COUNTY, "p;p" + times(n, ";w", ""), n <= 8 ? NONE : 20);
        }
        due("none", Check.court("p;p").count(1), 0);
        due("eight", Check.court("p;p" + times(8, ";w", "")).count(1), 8);
        due("no ninth", Check.text(new CompanyCourt(), COUNTY, "p;p" + times(9, ";w", "")), NONE);
        says("in any order");
        fault(COUNTY, "w;p;s;w;p", NONE);
        due("by their order", Check.court("wa1v0;pl1;sm3;w;pl2").wrong(0, 0), 1);
        fault(COUNTY, "s;p;p;p;p;p;p;w;w;w;w;w;w;w;w", NONE);
        fault(COUNTY, "w;w;w;w;w;w;w;w;p;p;p;p;p;p;s", NONE);
        says("A COUNTY is a TEXT: CLAUSES with ; between");
        fault(COUNTY, "pp", 1);
        fault(COUNTY, "p,p", 1);
        fault(COUNTY, ";p;p", 0);
        fault(COUNTY, "p;;p", 2);
        fault(COUNTY, "p;p;", 4);
    }

    private static void itemsOfClauses() throws IOException {
        says("then ITEMS, none or more: a letter, each once at most in a CLAUSE, and a number (one or two digits)");
        String kinds = "spw";
        String[] items = {"mc", "lbh", "avg"};
        for (int kind = 0; kind < 3; kind++) {
            for (char letter = 1; letter < 256; letter++) {
                boolean may = items[kind].indexOf(letter) >= 0;
                if (letter != ' ' && letter != ';') {
                    fault(COUNTY, kinds.charAt(kind) + "" + letter, may ? 2 : 1);
                }
            }
        }
        fault(COUNTY, "p l1b2h3;p h3b2l1;w g1v1a0;s c1m1", NONE);
        fault(COUNTY, "pl1l1;p", 3);
        fault(COUNTY, "pl1b1h1b1;p", 7);
        fault(COUNTY, "pl1;pl1;wg1;wg1", NONE);
        fault(COUNTY, "sm1c1m1;p;p", 5);
        fault(COUNTY, "wa0v1g1a0;p;p", 7);
        fault(COUNTY, "pl;p", 2);
        fault(COUNTY, "plb1;p", 2);
        fault(COUNTY, "pl-1;p", 2);
        fault(COUNTY, "pl01b1;p", NONE);
        fault(COUNTY, "pl001b1;p", 4);
        fault(COUNTY, "p1;p", 1);
    }

    /** Least and most are taken and told by the object, one less and one more are faults; so is what is told without. */
    private interface Asked {
        int of(CompanyCourt x);
    }

    private static void item(String ahead, String behind, int least, int most, int without, Asked asked) {
        for (int n = least; n <= most; n++) {
            CompanyCourt x = new CompanyCourt();
            due("text with " + n, Check.text(x, COUNTY, ahead + n + behind) >= 2, true);
            due(ahead + n + behind, asked.of(x), n);
            if (n < 10) {
                Check.text(x, COUNTY, ahead + "0" + n + behind);
                due(ahead + "0" + n + behind, asked.of(x), n);
            }
        }
        for (int n = most + 1; n < 100; n++) {
            fault(COUNTY, ahead + n + behind, ahead.length() + (n < 10 ? 0 : 1));
        }
        for (int n = 0; n < least; n++) {
            fault(COUNTY, ahead + n + behind, ahead.length());
            fault(COUNTY, ahead + "0" + n + behind, ahead.length() + 1);
        }
        fault(COUNTY, ahead + 100 + behind, ahead.length() + 2);
        due("without", asked.of(Check.court(ahead.substring(0, ahead.length() - 1) + behind)), without);
    }

    private static void numbersOfRules() throws IOException {
        says("of s: m the most EVENINGS for a WRONG (1 .. 30; 20 without)");
        item("sm", ";p;p", 1, 30, 20, x -> x.count(8));
        item("p;sc3m", ";p;w", 1, 30, 20, x -> x.count(8));
        due("no rules", Check.court("p;p").count(8), 20);
        says("c COINS (0 .. 99; 20)");
        item("sc", ";p;p", 0, 99, 20, x -> x.count(7));
        item("p;p;sm3c", "", 0, 99, 20, x -> x.count(7));
        due("no rules", Check.court("p;p").count(7), 20);
    }

    private static void numbersOfPersons() throws IOException {
        says("of p: l how LONELY (0 .. 9; 4)");
        item("pl", ";p", 0, 9, 4, x -> Check.person(x, 0, 0));
        item("p;ph3l", "b4", 0, 9, 4, x -> Check.person(x, 1, 0));
        says("b how much of a BORE (0 .. 9; 2)");
        item("pb", ";p", 0, 9, 2, x -> Check.person(x, 0, 1));
        item("p;p;p;p;p;pl3b", "h4", 0, 9, 2, x -> Check.person(x, 5, 1));
        says("h how HARD (0 .. 9; 3)");
        item("ph", ";p", 0, 9, 3, x -> Check.person(x, 0, 2));
        item("p;pl3h", "b4", 0, 9, 3, x -> Check.person(x, 1, 2));
    }

    private static void numbersOfWrongs() throws IOException {
        says("of w: a who did it, v to whom (0 .. 5 each; 0, 1)");
        for (int who = 0; who < 6; who++) {
            for (int whom = 0; whom < 6; whom++) {
                String text = "p;p;p;p;p;p;wa" + who + "v" + whom;
                fault(COUNTY, text, who == whom ? 17 : NONE);
                if (who != whom) {
                    CompanyCourt x = Check.court(text);
                    due("who", x.wrong(0, 0), who);
                    due("whom", x.wrong(0, 1), whom);
                }
            }
        }
        for (int n = 6; n < 100; n++) {
            fault(COUNTY, "p;p;wa" + n, n < 10 ? 6 : 7);
            fault(COUNTY, "p;p;wv" + n, n < 10 ? 6 : 7);
        }
        due("who without", Check.court("p;p;wg1").wrong(0, 0), 0);
        due("whom without", Check.court("p;p;wg1").wrong(0, 1), 1);
        says("g how GRAVE (1 .. 9; 3)");
        item("wg", ";p;p", 1, 9, 3, x -> x.wrong(0, 2));
        item("p;p;w;w;w;w;w;w;w;wa1v0g", "", 1, 9, 3, x -> x.wrong(7, 2));
    }

    // ---- laws and sessions

    private static void howManyTexts() throws IOException {
        says("LAWS (4 at most) are TEXTS");
        CompanyCourt x = new CompanyCourt();
        for (int i = 0; i < 6; i++) {
            due("law", Check.text(x, LAW, "y:" + (i + 1)), i < 4 ? i : NONE);
            due("laws", x.count(2), Math.min(4, i + 1));
            due("the tape of a refused one", x.count(4), i < 4 ? 0 : 3);
            due("no fault", x.fault(LAW), i < 4 ? 0 : NONE);
        }
        Check.text(x, COUNTY, "p;p;w");
        for (int i = 0; i < 5; i++) {
            due("law " + i, x.law(i), i < 4);
            due("it holds", x.wrong(0, 4), Math.min(4, i + 1));
        }
        says("SESSIONS (4 at most)");
        for (int i = 0; i < 6; i++) {
            due("session", Check.text(x, SESSION, "s" + i), i < 4 ? i : NONE);
            due("sessions", x.count(3), Math.min(4, i + 1));
            due("the tape of a refused one", x.count(4), i < 4 ? 0 : 2);
        }
        for (int i = 0; i < 6; i++) {
            due("step of session " + i, x.step(i, 0, 1), i < 4 ? i : HIDDEN);
        }
    }

    private static void clausesOfLaws() throws IOException {
        says("CLAUSES with ; between, one at least: y, : , perhaps CONDITION ?, then SUM");
        fault(LAW, "", 0);
        fault(LAW, " ", 1);
        fault(LAW, "y", 1);
        fault(LAW, "y:", 2);
        fault(LAW, "y:g", NONE);
        fault(LAW, "y:g=1?g", NONE);
        fault(LAW, "y:g;", 4);
        fault(LAW, ";y:g", 0);
        fault(LAW, "y:g;y:h;y:l;y:b;y:n;y:d", NONE);
        fault(LAW, times(60, "y:1", ";"), NONE);
        fault(LAW, "y:gy:g", 3);
        fault(LAW, "g", 0);
        fault(LAW, "yg", 1);
        fault(LAW, "y:?g", 2);
        fault(LAW, "y:g=1?", 6);
        fault(LAW, "y:g?g", 3);
        fault(LAW, "y:g=1", 5);
        fault(LAW, "y:g=1;y:1", 5);
        fault(LAW, "y:g=1?1?1", 7);
        fault(LAW, "y:g=1?1=1", 7);
        says("A CLAUSE that goes on with ! or ( behind its : has a CONDITION.");
        fault(LAW, "y:(g=1)", 7);
        fault(LAW, "y:!g=1", 6);
        fault(LAW, "y:(g=1)?1", NONE);
        fault(LAW, "y:!g=1?1", NONE);
        fault(LAW, "y:(g)", 4);
        fault(LAW, "y:!g", 4);
        fault(LAW, "y:(g)?1", 4);
        fault(LAW, "y:(g+1)*2", 6);
        fault(LAW, "y:(g=1)+1", 7);
    }

    private static void conditionsOfLaws() throws IOException {
        says("TRUTHS with | between; TRUTH: UNITS with & between; UNIT: ! UNIT, ( CONDITION ), or SUM, one of = < >,"
                + " SUM.");
        fault(LAW, "y:g=1|g<2&g>3|!g=1&(g=1|g=2)?1", NONE);
        fault(LAW, "y:g=1|?1", 6);
        fault(LAW, "y:g=1&?1", 6);
        fault(LAW, "y:|g=1?1", 2);
        fault(LAW, "y:&g=1?1", 2);
        fault(LAW, "y:g=1||g=1?1", 6);
        fault(LAW, "y:g=1&&g=1?1", 6);
        fault(LAW, "y:()?1", 3);
        fault(LAW, "y:!?1", 3);
        fault(LAW, "y:(g=1?1", 6);
        fault(LAW, "y:(g=1", 6);
        fault(LAW, "y:g=1)?1", 5);
        fault(LAW, "y:=1?1", 2);
        fault(LAW, "y:(=1)?1", 3);
        fault(LAW, "y:!=1?1", 3);
        fault(LAW, "y:!!<1?1", 4);
        fault(LAW, "y:g=1&=1?1", 6);
        fault(LAW, "y:g=1|>1?1", 6);
        fault(LAW, "y:g=1&(h=1|<1)?1", 11);
        fault(LAW, "y:g+=1?1", 4);
        fault(LAW, "y:g=?1", 4);
        fault(LAW, "y:g=1=1?1", 5);
        fault(LAW, "y:g<=1?1", 4);
        fault(LAW, "y:g=1&g?1", 7);
        fault(LAW, "y:g=1|g&g=1?1", 7);
        fault(LAW, "y:g|g=1?1", 3);
        fault(LAW, "y:g=1!?1", 5);
        fault(LAW, "y:g=1(g=1)?1", 5);
    }

    private static void sumsOfLaws() throws IOException {
        says("SUM: TERMS with + or - between; TERM: ATOMS with * or / between");
        fault(LAW, "y:1+2-3*4/5", NONE);
        fault(LAW, "y:+1", 2);
        fault(LAW, "y:-1", 2);
        fault(LAW, "y:1+", 4);
        fault(LAW, "y:1*", 4);
        fault(LAW, "y:1+-2", 4);
        fault(LAW, "y:1*/2", 4);
        says("ATOM: a number (1 to 4 digits), a letter (g h l b n d), [ SUM ].");
        fault(LAW, "y:0", NONE);
        fault(LAW, "y:9999", NONE);
        fault(LAW, "y:0000", NONE);
        fault(LAW, "y:10000", 6);
        fault(LAW, "y:00000", 6);
        for (char c = 1; c < 256; c++) {
            boolean atom = "ghlbnd".indexOf(c) >= 0 || c >= '0' && c <= '9';
            boolean more = c == '[' || c == '!' || c == '(' || c == ' ';
            fault(LAW, "y:" + c, atom ? NONE : more ? 3 : 2);
        }
        fault(LAW, "y:gh", 3);
        fault(LAW, "y:1g", 3);
        fault(LAW, "y:g1", 3);
        fault(LAW, "y:[]", 3);
        fault(LAW, "y:[g]", NONE);
        fault(LAW, "y:[g", 4);
        fault(LAW, "y:g]", 3);
        fault(LAW, "y:[g)", 4);
        fault(LAW, "y:[g=1]?1", 4);
        fault(LAW, "y:(g]?1", 4);
    }

    private static void nesting() throws IOException {
        says("At most six of ( [ ! within one another.");
        fault(LAW, "y:" + times(6, "[", "") + "g" + times(6, "]", ""), NONE);
        fault(LAW, "y:" + times(7, "[", "") + "g" + times(7, "]", ""), 8);
        fault(LAW, "y:" + times(6, "(", "") + "g=1" + times(6, ")", "") + "?1", NONE);
        fault(LAW, "y:" + times(7, "(", "") + "g=1" + times(7, ")", "") + "?1", 8);
        fault(LAW, "y:" + times(6, "!", "") + "g=1?1", NONE);
        fault(LAW, "y:" + times(7, "!", "") + "g=1?1", 8);
        fault(LAW, "y:!(!([[g]]=1))?1", NONE);
        fault(LAW, "y:!(!([[[g]]]=1))?1", 8);
        fault(LAW, "y:!(!(1=[[[g]]]))?1", 10);
        fault(LAW, "y:!!!!!![g]=1?1", 8);
        fault(LAW, "y:!!!!!!g=[g]?1", 10);
        fault(LAW, "y:!!!!!!(g=1)?1", 8);
        fault(LAW, "y:((((((!g=1))))))?1", 8);
        String[] sevenths = {"[g]=1", "1=[g]", "!g=1", "(g=1)", "g+[1]=1", "1<g*[1]"};
        int[] places = {0, 2, 0, 0, 2, 4};
        String[] aheads = {"g=1&", "g=1|", "g=1&h=1&", "g=1|h=1|", "g=1&h=1|", "g=1|h=1&", "1+1<2*2&"};
        for (int i = 0; i < sevenths.length; i++) {
            for (String ahead : aheads) {
                fault(LAW, "y:((((((" + ahead + sevenths[i] + "))))))?1", 8 + ahead.length() + places[i]);
                fault(LAW, "y:(((((" + ahead + sevenths[i] + ")))))?1", NONE);
                fault(LAW, "y:!!!!!(" + ahead + sevenths[i] + ")?1", 8 + ahead.length() + places[i]);
                fault(LAW, "y:!!!!(" + ahead + sevenths[i] + ")?1", NONE);
                fault(LAW, "y:!!!!!!" + ahead + sevenths[i] + "?1", NONE);
            }
        }
        says("within one another");
        fault(LAW, "y:" + times(9, "[g]", "+"), NONE);
        fault(LAW, "y:" + times(9, "(g=1)", "&") + "?1", NONE);
        fault(LAW, "y:" + times(9, "!g=1", "|") + "?1", NONE);
        fault(LAW, "y:!!!!!!g=1&!!!!!!g=1|((((((g=1))))))?[[[[[[g]]]]]]*[[[[[[g]]]]]];y:[[[[[[g]]]]]]", NONE);
        fault(LAW, "y:!!!!!!g=1&[g]=1?1", NONE);
        fault(LAW, "y:(((((g=1)))))&(((((([g]=1))))))?1", 22);
        says("a seventh of ( [ ! in a LAW at it");
        fault(LAW, "y:[[[[[[[", 8);
        fault(LAW, "y: [ [ [ [ [ [ [", 15);
        fault(LAW, "y:g=1?[[[[[[[", 12);
        fault(LAW, "y:g+[h*[l-[b/[n+[d+[[", 20);
    }

    private static void worth(String law, int want) {
        CompanyCourt x = new CompanyCourt();
        due("law " + law, Check.text(x, LAW, law), 0);
        x.law(0);
        Check.text(x, COUNTY, "sm30;pl1b2h3;pl4b5h6;wa1v0g9");
        due("worth by " + law, x.wrong(0, 4), want);
    }

    private static void heldNumbers() throws IOException {
        says("Behind each sign numbers are within -1,000,000 .. 1,000,000");
        worth("y:9999*100+100-9999*100-90", 10);
        worth("y:9999*100+99-9999*100-90", 9);
        worth("y:9999*100+101-9999*100-90", 10);
        worth("y:9999*100+9999-9999*100-90", 10);
        worth("y:1000*1000-9999*100-90", 10);
        worth("y:1001*1000-9999*100-90", 10);
        worth("y:9999*9999-9999*100-90", 10);
        worth("y:1000*1000+1-9999*100-90", 10);
        worth("y:0-9999*100-100+9999*100+110", 10);
        worth("y:0-9999*100-99+9999*100+110", 11);
        worth("y:0-9999*100-101+9999*100+110", 10);
        worth("y:0-9999*100-9999+9999*100+110", 10);
        worth("y:[0-1000]*1000+9999*100+110", 10);
        worth("y:[0-1001]*1000+9999*100+110", 10);
        worth("y:[0-9999]*9999+9999*100+110", 10);
        worth("y:[0-9999]*[0-9999]-9999*100-90", 10);
        worth("y:9999*9999*9999*9999/9999/10", 10);
        worth("y:[0-9999]*9999*9999*9999/9999/10+20", 10);
        worth("y:9999*9999=9999*9998?11;y:12", 11);
        worth("y:9999*9999=1000*1000?11;y:12", 11);
        worth("y:9999*9999>1000*1000?11;y:12", 12);
        worth("y:1000*1000>9999*100+99?11;y:12", 11);
    }

    private static void division() throws IOException {
        says("/ cuts towards 0, by 0 gives 0.");
        worth("y:29/10", 2);
        worth("y:30/10", 3);
        worth("y:[0-29]/10+9", 7);
        worth("y:[0-30]/10+9", 6);
        worth("y:29/[0-10]+9", 7);
        worth("y:[0-29]/[0-10]", 2);
        worth("y:[0-9]/10+9", 9);
        worth("y:9/0+7", 7);
        worth("y:[0-9]/0+7", 7);
        worth("y:0/0+7", 7);
        worth("y:9/[g-g]+7", 7);
        worth("y:1000*1000/[0-1]+9999*100+107", 7);
    }

    private static void firstClause() throws IOException {
        says("WORTH of a LAW: the SUM of the first CLAUSE whose CONDITION holds (or has none), 0 without");
        worth("y:g=9?11", 11);
        worth("y:g=9?11;y:12", 11);
        worth("y:g=8?11;y:12", 12);
        worth("y:g=8?11;y:g=9?12;y:13", 12);
        worth("y:10;y:g=9?11", 10);
        worth("y:10;y:11", 10);
        worth("y:g=8?11", 1);
        worth("y:g=8?11;y:g=7?12", 1);
        worth("y:g>9?11;y:g<9?12;y:13", 13);
        worth("y:g>8?11;y:13", 11);
        worth("y:g<10?11;y:13", 11);
        worth("y:g=9&h=5|b=2?11;y:12", 11);
        worth("y:b=2|g=9&h=5?11;y:12", 11);
        worth("y:(b=2|g=9)&h=5?11;y:12", 12);
        worth("y:!g=9?11;y:12", 12);
        worth("y:!!g=9?11;y:12", 11);
        worth("y:!g=8&h=5?11;y:12", 12);
        worth("y:!(g=8&h=5)?11;y:12", 11);
        worth("y:20-5-4", 11);
        worth("y:20/5*3", 12);
        worth("y:5+2*3", 11);
        worth("y:[5+2]*3", 21);
    }

    private static void truths() throws IOException {
        says("CONDITION: TRUTHS with | between; TRUTH: UNITS with & between; UNIT: ! UNIT, ( CONDITION )");
        String[] holding = {"g=9", "g<10", "g>8", "!g=8", "!g<9", "!g>9", "(g=9)", "!!g<10", "!!g>8", "!(g<9|g>9)",
            "!g<8", "!g>10", "1-2<0"};
        String[] failing = {"g=8", "g<9", "g>9", "!g=9", "!g<10", "!g>8", "(g=8)", "!!g<9", "!!g>9", "!(g<10&g>8)",
            "g<8", "g>10", "0<1-2"};
        for (int i = 0; i < holding.length; i++) {
            for (int k = 0; k < holding.length; k++) {
                truth(holding[i] + "&" + holding[k], true);
                truth(holding[i] + "&" + failing[k], false);
                truth(failing[i] + "&" + holding[k], false);
                truth(failing[i] + "&" + failing[k], false);
                truth(holding[i] + "|" + holding[k], true);
                truth(holding[i] + "|" + failing[k], true);
                truth(failing[i] + "|" + holding[k], true);
                truth(failing[i] + "|" + failing[k], false);
            }
        }
        for (int bits = 0; bits < 16; bits++) {
            boolean a = (bits & 1) == 1;
            boolean b = (bits & 2) == 2;
            boolean c = (bits & 4) == 4;
            boolean d = (bits & 8) == 8;
            String[] u = new String[4];
            for (int i = 0; i < 4; i++) {
                u[i] = (bits >> i & 1) == 1 ? holding[i] : failing[i];
            }
            truth(u[0] + "&" + u[1] + "|" + u[2] + "&" + u[3], a && b || c && d);
            truth(u[0] + "|" + u[1] + "&" + u[2] + "|" + u[3], a || b && c || d);
            truth("(" + u[0] + "|" + u[1] + ")&(" + u[2] + "|" + u[3] + ")", (a || b) && (c || d));
            truth("!" + u[0] + "&" + u[1] + "|!(" + u[2] + "&" + u[3] + ")", !a && b || !(c && d));
            truth("!(" + u[0] + "|" + u[1] + ")&" + u[2] + "&" + u[3], !(a || b) && c && d);
        }
    }

    private static void truth(String condition, boolean holds) {
        worth("y:" + condition + "?11;y:12", holds ? 11 : 12);
    }

    private static void stepsOfSessions() throws IOException {
        says("SESSIONS (4 at most) are TEXTS: STEPS with ; between, 1 to 16");
        fault(SESSION, "", 0);
        for (int n = 1; n <= 18; n++) {
            fault(SESSION, times(n, "e", ";"), n <= 16 ? NONE : 31);
        }
        CompanyCourt x = new CompanyCourt();
        Check.text(x, SESSION, "s3");
        Check.text(x, SESSION, times(16, "e", ";"));
        due("one step", x.step(0, 0, 1), 3);
        due("no second", x.step(0, 1, 0), HIDDEN);
        due("sixteen", x.step(1, 15, 0), 1);
        due("no seventeenth", x.step(1, 16, 0), HIDDEN);
        says("the ; ahead of a 17th STEP");
        fault(SESSION, times(16, "a01", ";"), NONE);
        fault(SESSION, times(16, "a01", ";") + ";", 63);
        fault(SESSION, times(16, "a01", ";") + " ;e", 64);
        fault(SESSION, times(17, "a01", ";"), 63);
        fault(SESSION, times(15, "e", ";") + ";", 30);
        says("s and a digit (that WRONG is SENTENCED), e (an EVENING), a and two digits (the APPEAL of the first"
                + " against the second), p and two digits (their PARDON)");
        String[] letters = {"s", "e", "a", "p"};
        int[] digits = {1, 0, 2, 2};
        for (int kind = 0; kind < 4; kind++) {
            for (int n = 0; n <= 3; n++) {
                String text = letters[kind] + "987".substring(0, n);
                fault(SESSION, text, n == digits[kind] ? NONE : Math.min(n, digits[kind]) + 1);
                fault(SESSION, text + ";e", n == digits[kind] ? NONE : Math.min(n, digits[kind]) + 1);
            }
        }
        for (char c = 1; c < 256; c++) {
            int want = c == 'e' ? NONE : "sap ".indexOf(c) >= 0 ? 1 : 0;
            fault(SESSION, "" + c, want);
            fault(SESSION, "s" + c, c >= '0' && c <= '9' ? NONE : c == ' ' ? 2 : 1);
            fault(SESSION, "a0" + c, c >= '0' && c <= '9' ? NONE : c == ' ' ? 3 : 2);
        }
        fault(SESSION, ";e", 0);
        fault(SESSION, "e;;e", 2);
        fault(SESSION, "e;", 2);
        fault(SESSION, "ee", 1);
    }

    private static void blanks() throws IOException {
        says("Blanks (32) may stand between all signs of these, not within numbers (between digits of a STEP they"
                + " may).");
        fault(COUNTY, "  s  m  10  c  5  ;  p  l  1  ;  p  ;  w  g  2  ", NONE);
        fault(COUNTY, "sm1 0;p;p", 4);
        fault(COUNTY, "sm3 1;p;p", 4);
        fault(COUNTY, "pl0 1;p", 4);
        fault(COUNTY, "p\t;p", 1);
        fault(COUNTY, "p\n;p", 1);
        fault(COUNTY, "\u0001p;p", 0);
        fault(COUNTY, "p\u00a0;p", 1);
        fault(LAW, "  y  :  (  g  =  1  )  &  !  h  <  2  ?  [  12  +  3  ]  *  2  ;  y  :  1  ", NONE);
        fault(LAW, "y:1 2", 4);
        fault(LAW, "y:12 34", 5);
        fault(LAW, "y:\t1", 2);
        fault(SESSION, "  s  1  ;  e  ;  a  0  1  ;  p  2  3  ", NONE);
        fault(SESSION, "s\t1", 1);
        CompanyCourt x = new CompanyCourt();
        Check.text(x, SESSION, " s  1 ; a 2  3 ");
        due("digits of a step", x.step(0, 1, 1) * 10 + x.step(0, 1, 2), 23);
        fault(COUNTY, " ", 1);
        fault(LAW, "  ", 2);
        fault(SESSION, "   ", 3);
        fault(COUNTY, "p;p" + times(237, " ", ""), NONE);
        fault(COUNTY, "p;" + times(238, " ", ""), 240);
        for (int sort = 0; sort < 3; sort++) {
            fault(sort, times(239, " ", ""), 239);
            fault(sort, times(240, " ", ""), 240);
            fault(sort, times(239, " ", "") + "x", 239);
        }
        fault(LAW, times(237, " ", "") + "y:g", NONE);
        fault(LAW, "y" + times(237, " ", "") + ":g", NONE);
        fault(SESSION, times(239, " ", "") + "e", NONE);
        fault(SESSION, "e" + times(239, " ", ""), NONE);
        fault(SESSION, "e" + times(238, " ", "") + ";", 240);
    }

    // ---- faults

    /** Behind a text that can go on, any byte but these is itself the fault. */
    private static void goesOn(int sort, String text, String next) {
        for (char c = 1; c < 256; c++) {
            int fault = Check.fault(sort, text + c);
            boolean may = next.indexOf(c) >= 0 || c == ' ';
            due("'" + c + "' (" + (int) c + ") is the fault behind '" + text + "'", fault == text.length(), !may);
            if (may) {
                due("'" + c + "' is none behind '" + text + "'", fault == NONE || fault == text.length() + 1, true);
            }
        }
    }

    private static void eachByte() throws IOException {
        says("FAULT: the first byte at which no such TEXT can go on");
        String digits = "0123456789";
        goesOn(COUNTY, "", "spw");
        goesOn(COUNTY, "s", ";mc");
        goesOn(COUNTY, "p", ";lbh");
        goesOn(COUNTY, "w", ";avg");
        goesOn(COUNTY, "p;", "spw");
        goesOn(COUNTY, "p;s;", "pw");
        goesOn(COUNTY, "p;p;p;p;p;p;", "sw");
        goesOn(COUNTY, "w;w;w;w;w;w;w;w;", "sp");
        goesOn(COUNTY, "p;p", ";lbh");
        goesOn(COUNTY, "pl", digits);
        goesOn(COUNTY, "sm", "123456789");
        goesOn(COUNTY, "sm1", ";c" + digits);
        goesOn(COUNTY, "sm2", ";c" + digits);
        goesOn(COUNTY, "sm3", ";c0");
        goesOn(COUNTY, "sc9", ";m" + digits);
        goesOn(COUNTY, "pl0", ";bh" + digits);
        goesOn(COUNTY, "pl1", ";bh");
        goesOn(COUNTY, "pl01", ";bh");
        goesOn(COUNTY, "pl1b2", ";h");
        goesOn(COUNTY, "pl1b2h3", ";");
        goesOn(COUNTY, "wa", "012345");
        goesOn(COUNTY, "wa0", ";vg012345");
        goesOn(COUNTY, "wg", "123456789");
        goesOn(COUNTY, "p ", ";lbh");
        goesOn(LAW, "", "y");
        goesOn(LAW, "y", ":");
        goesOn(LAW, "y:", "ghlbnd[!(" + digits);
        String atom = "ghlbnd[" + digits;
        goesOn(LAW, "y:g", "+-*/=<>;");
        goesOn(LAW, "y:123", "+-*/=<>;" + digits);
        goesOn(LAW, "y:1234", "+-*/=<>;");
        goesOn(LAW, "y:1 ", "+-*/=<>;");
        for (String sign : new String[] {"+", "-", "*", "/", "=", "<", ">", "[", "=1?"}) {
            goesOn(LAW, "y:" + (sign.equals("[") ? "" : "g") + sign, atom);
        }
        goesOn(LAW, "y:g=h", "+-*/&|?");
        goesOn(LAW, "y:g=1&h<2", "+-*/&|?" + digits);
        goesOn(LAW, "y:g=1|h<[2]", "+-*/&|?");
        for (String ahead : new String[] {"g=1&", "g=1|", "!", "(", "!(", "(g=1&", "(g=1|"}) {
            goesOn(LAW, "y:" + ahead, atom + "!(");
            goesOn(LAW, "y:" + ahead + "h", "+-*/=<>");
        }
        goesOn(LAW, "y:(g=h", "+-*/&|)");
        goesOn(LAW, "y:(g=h)", "&|?");
        goesOn(LAW, "y:!g=h", "+-*/&|?");
        goesOn(LAW, "y:[g", "+-*/]");
        goesOn(LAW, "y:[g]", "+-*/=<>;");
        goesOn(LAW, "y:g=[h", "+-*/]");
        goesOn(LAW, "y:g=h?l", "+-*/;");
        goesOn(LAW, "y:g=h?[l]", "+-*/;");
        goesOn(LAW, "y:g;", "y");
        goesOn(SESSION, "", "seap");
        goesOn(SESSION, "s", digits);
        goesOn(SESSION, "s1", ";");
        goesOn(SESSION, "e", ";");
        goesOn(SESSION, "a", digits);
        goesOn(SESSION, "a1", digits);
        goesOn(SESSION, "p12", ";");
        goesOn(SESSION, "e;", "seap");
        goesOn(SESSION, times(16, "e", ";"), "");
    }

    private static void faultsOfLength() throws IOException {
        says("FAULT: the first byte at which no such TEXT can go on (the length, if it ends too early, with fewer than"
                + " two PERSONS, with a WRONG of or to one that is not told, to himself)");
        String[] early = {"", "s", "sm", "p", "p;", "p;p;", "p;pl", "p;p;wa", " p ", "p;w", "w;w", "s;w;p"};
        for (String text : early) {
            fault(COUNTY, text, text.length());
            fault(COUNTY, text + "  ", text.length() + 2);
        }
        String[] lawsEarly = {"", "y", "y:", "y:g+", "y:g*", "y:g=", "y:g=1", "y:g=1?", "y:g=1&", "y:g=1|", "y:!", "y:(",
            "y:(g", "y:(g=1", "y:[", "y:[g", "y:g;", "y:g=1?g;"};
        for (String text : lawsEarly) {
            fault(LAW, text, text.length());
            fault(LAW, text + "  ", text.length() + 2);
        }
        String[] sessionsEarly = {"", "s", "a", "a0", "p", "p0", "e;", "s1;"};
        for (String text : sessionsEarly) {
            fault(SESSION, text, text.length());
            fault(SESSION, text + "  ", text.length() + 2);
        }
        String[] ofNobody = {"p;p;wa2", "p;p;wv2", "p;p;wa5v0", "p;p;wa0v5", "wa2v1;p;p", "wv2;p;p", "p;p;p;wa3v0",
            "p;p;p;wv3", "p;p;p;p;p;wa5v0", "p;p;p;p;p;wv5", "p;p;w;w;w;w;w;w;w;wv2"};
        for (String text : ofNobody) {
            fault(COUNTY, text, text.length());
            fault(COUNTY, text + " ", text.length() + 1);
            due("no county", Check.text(new CompanyCourt(), COUNTY, text), NONE);
        }
        for (int bad = 0; bad < 4; bad++) {
            String[] wrongs = {"w", "w", "w", "w"};
            String[] kinds = {"wa2", "wv2", "wa1", "wv0"};
            for (String kind : kinds) {
                wrongs[bad] = kind;
                String text = "p;p;" + String.join(";", wrongs);
                fault(COUNTY, text, text.length());
            }
        }
        String[] ofSomebody = {"p;p;wa1v0", "wa2v1;p;p;p", "wv2;p;p;p", "p;p;p;p;p;p;wa5v0", "p;p;p;p;p;p;wv5"};
        for (String text : ofSomebody) {
            fault(COUNTY, text, NONE);
        }
        String[] toHimself = {"p;p;wa1", "p;p;wv0", "p;p;wa0v0", "wa1;p;p", "p;p;p;wa2v2", "p;p;w;w;w;w;w;w;w;wa1"};
        for (String text : toHimself) {
            fault(COUNTY, text, text.length());
            due("no county", Check.text(new CompanyCourt(), COUNTY, text), NONE);
        }
        fault(COUNTY, "wa1;p;x", 6);
        fault(COUNTY, "x", 0);
        fault(COUNTY, "p;px;y", 3);
    }

    private static void faultsOfNumbers() throws IOException {
        says("a number out of bounds is wrong at its last digit");
        fault(COUNTY, "sm0;p;p", 2);
        fault(COUNTY, "sm00;p;p", 3);
        fault(COUNTY, "sm31;p;p", 3);
        fault(COUNTY, "sm99;p;p", 3);
        fault(COUNTY, "sm 31 ;p;p", 4);
        fault(COUNTY, "sm0 1;p;p", 2);
        fault(COUNTY, "pl10", 3);
        fault(COUNTY, "pl1b10", 5);
        fault(COUNTY, "wa6", 2);
        fault(COUNTY, "wa06", 3);
        fault(COUNTY, "wa10", 3);
        fault(COUNTY, "wg0", 2);
        fault(COUNTY, "wg10", 3);
        says("a third digit (whatever stands ahead of it; a fifth one in a LAW) itself");
        fault(COUNTY, "sm100;p;p", 4);
        fault(COUNTY, "sm310;p;p", 4);
        fault(COUNTY, "sm000;p;p", 4);
        fault(COUNTY, "sm001;p;p", 4);
        fault(COUNTY, "sc100;p;p", 4);
        fault(COUNTY, "sc1000;p;p", 4);
        fault(COUNTY, "pl999", 4);
        fault(COUNTY, "pl000", 4);
        fault(COUNTY, "wa060", 4);
        fault(COUNTY, "wg100", 4);
        fault(LAW, "y:12345", 6);
        fault(LAW, "y:00001", 6);
        fault(LAW, "y:1234+123456", 11);
        fault(LAW, "y:[99999]", 7);
        fault(LAW, "y:g=10000?1", 8);
    }

    private static void faultsOfSignsThereWere() throws IOException {
        says("a letter that was there, a second s, a seventh p, a ninth w");
        fault(COUNTY, "sm1m", 3);
        fault(COUNTY, "sc1c", 3);
        fault(COUNTY, "sm1c1m1", 5);
        fault(COUNTY, "pl1l", 3);
        fault(COUNTY, "pb1b", 3);
        fault(COUNTY, "ph1h", 3);
        fault(COUNTY, "pl1b1h1l", 7);
        fault(COUNTY, "wa1a", 3);
        fault(COUNTY, "wv1v", 3);
        fault(COUNTY, "wg1g", 3);
        fault(COUNTY, "wa1v1g1 v", 8);
        fault(COUNTY, "s;s", 2);
        fault(COUNTY, "s;p;p;w;s", 8);
        fault(COUNTY, "sm1; sm1", 5);
        fault(COUNTY, "p;p;p;p;p;p;p", 12);
        fault(COUNTY, "p;w;p;w;p;s;p;p;w;p; pl99", 21);
        fault(COUNTY, "w;w;w;w;w;w;w;w;w", 16);
        fault(COUNTY, "p;w;w;w;w;s;p;w;w;w;w; wx", 23);
    }

    private static void stepsThatAreNoFault() throws IOException {
        says("What a STEP tells that is not there is no FAULT: the STEP can't be.");
        String[] steps = {"s8", "s9", "a67", "a99", "p66", "a00", "p11"};
        for (String step : steps) {
            fault(SESSION, step, NONE);
            CompanyCourt x = Check.owing("p;p;w");
            due("text of " + step, Check.text(x, SESSION, step), 0);
            due("run of " + step, x.run(0, 0), 0);
            due("do of " + step, x.perform(0), 0);
        }
    }

    // ---- promises 5 and 20

    private static void telling() throws IOException {
        says("NONE: a FAULT, no such sort, there are four.");
        String[] faulty = {"p;p;wa2", "y:g+", "e;"};
        for (int sort = 0; sort < 3; sort++) {
            CompanyCourt x = Check.court("pl7;p;p;w");
            due("a fault", Check.text(x, sort, faulty[sort]), NONE);
            due("the tape stays", x.count(4), faulty[sort].length());
            due("no law", x.count(2), 0);
            due("no session", x.count(3), 0);
            due("the county", x.count(0) * 10 + x.count(1), 31);
            due("its person", Check.person(x, 0, 0), 7);
        }
        int[] sorts = {Integer.MIN_VALUE, -1, 3, Integer.MAX_VALUE};
        String[] good = {"p;p", "y:1", "e"};
        for (int sort : sorts) {
            for (String text : good) {
                CompanyCourt x = new CompanyCourt();
                due("no such sort", Check.text(x, sort, text), NONE);
                due("the tape stays", x.count(4), text.length());
                due("nothing told", x.count(0) + x.count(2) + x.count(3), 0);
            }
        }
        says("how many PERSONS; a LAW, a SESSION: its number");
        for (int n = 2; n <= 6; n++) {
            due("persons", Check.text(new CompanyCourt(), COUNTY, times(n, "p", ";")), n);
        }
        CompanyCourt numbers = new CompanyCourt();
        for (int i = 0; i < 4; i++) {
            due("law", Check.text(numbers, LAW, "y:1"), i);
            due("session", Check.text(numbers, SESSION, "e"), i);
            due("the tape is empty", numbers.count(4), 0);
        }
        due("a county behind them", Check.text(numbers, COUNTY, "p;p"), 2);
        due("the tape is empty", numbers.count(4), 0);
        says("The TAPE (empty then) is the COUNTY (EVENING 0, nothing OWED or SENTENCED; all that was of another one,"
                + " GIVEN, too, is gone but LAWS, which holds, SESSIONS, SIN)");
        CompanyCourt x = busy();
        Check.text(x, COUNTY, "p;p;w;w;w");
        int[] counts = {2, 3, 2, 1, 0, 1, 0, 20, 20, 8, 0, 0, 0};
        for (int i = 0; i < counts.length; i++) {
            due("count " + i, x.count(i), counts[i]);
        }
        due("nothing owed", x.all(5), 0);
        due("nothing sentenced", x.all(4), 7);
        due("no windows", x.all(7), 0);
        due("no image", x.back(), NONE);
        due("no act", x.undo(), NONE);
        due("no log", x.log(0, 0), NONE);
        due("lonely as told", Check.person(x, 0, 0), 4);
        due("a bore as told", Check.person(x, 1, 1), 2);
        due("the law", x.wrong(0, 4), 13);
        due("graves", x.graves(0, NONE), 9);
        due("the session", x.perform(0), 1);
        String[] counties = {"p;p", "p;p;w", "pl9b1h5;pl1;pl4;wa2v1g9;wv2", "sm30c0;p;p;p;p;p;p;w;w;w;w;w;w;w;wa5v4g9"};
        for (String county : counties) {
            CompanyCourt first = new CompanyCourt();
            setUp(first);
            Check.text(first, COUNTY, county);
            CompanyCourt later = new CompanyCourt();
            setUp(later);
            Check.text(later, COUNTY, "sm1c1;pl9b9h9;pl9b9h9;pl9b9h9;pl9b9h9;pl9b9h9;pl9b9h9;wg9;w;w;w;w;w;wa5v4;wa4v5");
            for (int i = 0; i < 8; i++) {
                later.sentence(i);
            }
            later.image();
            later.years(29, 5);
            later.given(7, 2, true);
            Check.text(later, COUNTY, county);
            new Twins(CHECK).alike("another county ahead of " + county, later, first);
        }
    }

    private static void setUp(CompanyCourt x) {
        Check.text(x, LAW, "y:g*2+n+d");
        Check.text(x, SESSION, "s0;e;e;a01");
        x.law(0);
        x.sin(9);
    }

    private static CompanyCourt busy() {
        CompanyCourt x = Check.owing("pl9;pb9;pl9;p;w;wa2v0");
        Check.text(x, LAW, "y:13");
        Check.text(x, SESSION, "s2");
        x.law(1);
        x.sin(8);
        x.evening();
        x.teach(1);
        x.given(0, 30, true);
        x.image();
        return x;
    }

    /** What was a fault, or only asked for one, is not in what is told behind it, and is nowhere to be asked. */
    private static void noTraces() throws IOException {
        says("What is refused answers as told and changes nothing.");
        String[] before = {"s3;e;e", "a01;x", "e;e;e;", "y:5", "y:5;y:6;", "y:g=1&", "pl1b1h1;pl1b1h1;wa1v0g9;sm1c1",
            "sm1;pl1;p;x"};
        for (String text : before) {
            CompanyCourt x = new CompanyCourt();
            for (int sort = 0; sort < 3; sort++) {
                Check.tape(x, text);
                x.fault(sort);
                if (x.fault(sort) != NONE) {
                    x.text(sort);
                }
            }
            due("no persons by " + text, x.count(0) + x.evening(), NONE);
            due("no law by " + text, x.law(0), false);
            due("no step by " + text, x.step(0, 0, 0), HIDDEN);
            due("no run by " + text, x.run(0, 0), HIDDEN);
            due("do nothing by " + text, x.perform(0), NONE);
            due("a session", Check.text(x, SESSION, "p45"), 0);
            due("its step behind " + text, x.step(0, 0, 0) * 100 + x.step(0, 0, 1) * 10 + x.step(0, 0, 2), 345);
            due("no second one", x.step(0, 1, 0), HIDDEN);
            due("a law", Check.text(x, LAW, "y:7"), 0);
            x.law(0);
            due("a county", Check.text(x, COUNTY, "p;p;p;w"), 3);
            due("its law behind " + text, x.wrong(0, 4), 7);
            due("one wrong", x.count(1), 1);
            due("of whom", x.wrong(0, 0) * 100 + x.wrong(0, 1) * 10 + x.wrong(0, 2), 13);
            due("the most", x.count(8), 20);
            due("coins", x.count(7), 20);
            due("a person", Check.person(x, 0, 0) * 100 + Check.person(x, 0, 1) * 10 + Check.person(x, 0, 2), 423);
        }
    }

    private static void askingSteps() throws IOException {
        says("A STEP of a SESSION: 0 what (0 s, 1 e, 2 a, 3 p), 1 its digit (NONE), 2 the second one (NONE). HIDDEN:"
                + " no such ones.");
        CompanyCourt x = new CompanyCourt();
        due("no session", x.step(0, 0, 0), HIDDEN);
        Check.text(x, SESSION, "s9;e;a05;p60");
        Check.text(x, SESSION, "e");
        int[][] want = {{0, 9, NONE}, {1, NONE, NONE}, {2, 0, 5}, {3, 6, 0}};
        for (int i = 0; i < 4; i++) {
            for (int what = 0; what < 3; what++) {
                due("step " + i + " " + what, x.step(0, i, what), want[i][what]);
            }
        }
        int[] wild = {Integer.MIN_VALUE, -1, Integer.MAX_VALUE};
        for (int n : wild) {
            due("session " + n, x.step(n, 0, 0), HIDDEN);
            due("step " + n, x.step(0, n, 0), HIDDEN);
            due("what " + n, x.step(0, 0, n), HIDDEN);
        }
        due("session 2", x.step(2, 0, 0), HIDDEN);
        due("step 4", x.step(0, 4, 0), HIDDEN);
        due("what 3", x.step(0, 3, 3), HIDDEN);
        due("another session is shorter", x.step(1, 1, 0), HIDDEN);
        due("the last one", x.step(1, 0, 0), 1);
    }
}
