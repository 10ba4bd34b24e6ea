import java.util.ArrayList;
import java.util.List;

/** Two objects that are to answer alike: as they are, back through all their acts and their image, and on again. */
final class Twins {
    private static final int NONE = CompanyCourt.NONE;
    private final Check check;

    Twins(Check check) {
        this.check = check;
    }

    /** Answers with what was asked. */
    private static final class Answers {
        final List<String> names = new ArrayList<>();
        final List<Long> values = new ArrayList<>();

        void add(String name, long value) {
            names.add(name);
            values.add(value);
        }
    }

    void alike(String name, CompanyCourt x, CompanyCourt twin) {
        Answers got = answers(x);
        Answers want = answers(twin);
        int unlike = 0;
        for (int i = 0; i < want.values.size(); i++) {
            if (!got.values.get(i).equals(want.values.get(i))) {
                unlike++;
                check.due("behind " + name + ": " + want.names.get(i), got.values.get(i), want.values.get(i));
            }
        }
        check.due("answers that are unlike behind " + name, unlike, 0);
    }

    private static Answers answers(CompanyCourt x) {
        Answers to = new Answers();
        askAll(x, to);
        askAboutTwo(x, to);
        int left = x.undo();
        to.add("undo", left);
        askShort(x, to);
        for (int i = 1; i < 41 && left != NONE; i++) {
            left = x.undo();
            to.add("undo " + i, left);
            to.add("evening", x.count(6));
            to.add("coins", x.count(7));
            to.add("owed in all", x.all(5));
        }
        askShort(x, to);
        to.add("evening", x.evening());
        askShort(x, to);
        to.add("back", x.back());
        askShort(x, to);
        to.add("years", x.years(2, 77));
        askShort(x, to);
        for (int sort = 2; sort >= 0; sort--) {
            to.add("text " + sort, x.text(sort));
        }
        askShort(x, to);
        return to;
    }

    private static void askAll(CompanyCourt x, Answers to) {
        for (int i = 0; i < 13; i++) {
            to.add("count " + i, x.count(i));
        }
        for (int sort = 0; sort < 3; sort++) {
            to.add("fault " + sort, x.fault(sort));
        }
        for (int i = 0; i < 10; i++) {
            to.add("all " + i, x.all(i));
        }
        for (int person = 0; person < 4; person++) {
            for (int what = 0; what < 4; what++) {
                to.add("person " + person + " " + what, Check.person(x, person, what));
            }
            to.add("wrongs of " + person, x.circle(person, 0));
            to.add("wrongs against " + person, x.circle(person, 1));
        }
        for (int wrong = 0; wrong < 4; wrong++) {
            for (int what = 0; what < 5; what++) {
                to.add("wrong " + wrong + " " + what, x.wrong(wrong, what));
            }
            to.add("graves " + wrong, x.graves(wrong, NONE));
            to.add("the first of " + wrong, x.graves(wrong, 0));
            to.add("ask " + wrong, x.ask(wrong));
        }
        for (int what = 0; what < 3; what++) {
            to.add("log 0 " + what, x.log(0, what));
            to.add("log 1 " + what, x.log(1, what));
            to.add("log 59 " + what, x.log(59, what));
        }
    }

    private static void askAboutTwo(CompanyCourt x, Answers to) {
        for (int one = 0; one < 4; one++) {
            for (int other = one + 1; other < 4; other++) {
                to.add("owed " + one + other, x.owed(one, other));
            }
        }
        for (int session = 0; session < 4; session++) {
            for (int what = 0; what < 3; what++) {
                to.add("step of " + session, x.step(session, 0, what));
            }
            to.add("second step of " + session, x.step(session, 1, 0));
            to.add("run " + session, x.run(session, 0));
            to.add("windows of " + session, x.run(session, 1));
        }
        to.add("tonight", x.tonight());
        to.add("served", x.served());
        to.add("sooner", x.sooner());
        to.add("matched", x.matched(0));
        to.add("how much", x.matched(1));
        to.add("firm", x.firm(NONE));
        to.add("the first firm", x.firm(0));
        to.add("crime", x.crime(0, 1, 7));
        to.add("game", x.game(0, 1, 1, 0, 0));
        to.add("rests", x.rests(0, 1, NONE));
        to.add("odds", x.odds(1, 4, 35));
    }

    private static void askShort(CompanyCourt x, Answers to) {
        int[] counts = {0, 6, 10, 11, 12};
        for (int i : counts) {
            to.add("count " + i + " then", x.count(i));
        }
        int[] alls = {4, 5, 7};
        for (int i : alls) {
            to.add("all " + i + " then", x.all(i));
        }
        for (int person = 0; person < 3; person++) {
            to.add("lonely " + person + " then", Check.person(x, person, 0));
        }
        to.add("bore 1 then", Check.person(x, 1, 1));
        to.add("log then", x.log(0, 2));
        to.add("log ahead then", x.log(1, 2));
    }
}
