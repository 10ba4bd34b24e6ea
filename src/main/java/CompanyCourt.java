import java.util.NoSuchElementException;

public final class CompanyCourt {
    public static final int NONE = -1;
    public static final int HIDDEN = -1000000;

    private static final int MOST_PEOPLE = 6;
    private static final int MOST_WRONGS = 8;
    private static final int MOST_TEXTS = 4;
    private static final int MOST_STEPS = 16;
    private static final int MOST_EVENINGS = 999;
    private static final int MOST_OWED = 99;
    private static final int MOST_COINS = 999;
    private static final int MOST_GIVEN = 10;
    private static final int MOST_GRAVE = 9;
    private static final int MOST_WORTH = 30;
    private static final int MOST_UNDONE = 40;
    private static final int MOST_LOG = 60;
    private static final int MOST_NESTED = 6;
    private static final int MOST_ROWS = 76;
    private static final int MOST_ODDS = 6;
    private static final int ALONE = 9;
    private static final int NOBODY = -9;
    private static final long PARTS = 1000000000L;

    private final Tape tape = new Tape();
    private County county = new County();
    private County draft = new County();
    private final Law[] laws = new Law[MOST_TEXTS + 1];
    private final Session[] sessions = new Session[MOST_TEXTS + 1];
    private int lawCount = 0;
    private int lawHeld = NONE;
    private int sessionCount = 0;
    private int sinBelow = 3;
    private final State told = new State();
    private final State now = new State();
    private final State kept = new State();
    private boolean imaged = false;
    private final State[] apart = new State[MOST_ODDS + 1];
    private final Past past = new Past();
    private final Log diary = new Log();
    private final Given givens = new Given();
    private final Rows rows = new Rows();
    private final int[] letters = new int[6];
    private long draws = 0;

    public CompanyCourt() {
        for (int i = 0; i < laws.length; i++) {
            laws[i] = new Law();
        }
        for (int i = 0; i < sessions.length; i++) {
            sessions[i] = new Session();
        }
        for (int i = 0; i < apart.length; i++) {
            apart[i] = new State();
        }
    }

    public int feed(int a, int b, int c, int d, int e) {
        int more = Tape.bytesOf(a) + Tape.bytesOf(b) + Tape.bytesOf(c) + Tape.bytesOf(d) + Tape.bytesOf(e);
        if (tape.length + more > Tape.MOST) {
            return NONE;
        }
        tape.add(a);
        tape.add(b);
        tape.add(c);
        tape.add(d);
        tape.add(e);
        return tape.length;
    }

    public boolean end(int n) {
        if (n < 0 || n > tape.length) {
            return false;
        }
        tape.length = n;
        return true;
    }

    public int fault(int sort) {
        if (sort < 0 || sort > 2) {
            return -2;
        }
        return readAs(sort) ? NONE : tape.wrong;
    }

    public int text(int sort) {
        if (sort < 0 || sort > 2) {
            return NONE;
        }
        if (sort == 1 && lawCount >= MOST_TEXTS || sort == 2 && sessionCount >= MOST_TEXTS) {
            return NONE;
        }
        if (!readAs(sort)) {
            return NONE;
        }
        tape.length = 0;
        if (sort == 1) {
            return lawCount++;
        }
        return sort == 2 ? sessionCount++ : settle();
    }

    public int person(int person, int what) throws NoSuchElementException {
        if (!isPerson(person) || what < 0 || what > 3) {
            throw new NoSuchElementException("no such person, or nothing of that kind");
        }
        switch (what) {
            case 0: return now.lonelyOf(person);
            case 1: return now.boreOf(person);
            case 2: return county.hardOf(person);
            default: return now.debtOf(person);
        }
    }

    public int wrong(int wrong, int what) {
        if (!isWrong(wrong)) {
            return NONE;
        }
        switch (what) {
            case 0: return county.whoOf(wrong);
            case 1: return county.whomOf(wrong);
            case 2: return county.graveOf(wrong);
            case 3: return now.isSentenced(wrong) ? 1 : 0;
            case 4: return worthBy(now, county.whoOf(wrong), county.whomOf(wrong), county.graveOf(wrong));
            default: return NONE;
        }
    }

    public boolean law(int law) {
        if (law < NONE || law >= lawCount) {
            return false;
        }
        lawHeld = law;
        return true;
    }

    public boolean sin(int v) {
        if (v < 0 || v > 9 || v == sinBelow) {
            return false;
        }
        sinBelow = v;
        return true;
    }

    public int sentence(int wrong) {
        past.offer(now);
        if (!sentenceIn(now, wrong)) {
            return NONE;
        }
        past.keep();
        return now.owes(county.whoOf(wrong), county.whomOf(wrong));
    }

    public int evening() {
        past.offer(now);
        if (!eveningIn(now)) {
            return NONE;
        }
        past.keep();
        diary.write(now);
        return now.sat;
    }

    public int appeal(int one, int other) {
        past.offer(now);
        if (!appealIn(now, one, other)) {
            return NONE;
        }
        past.keep();
        return now.owes(one, other);
    }

    public int pardon(int one, int other) {
        int much = now.owes(one, other);
        past.offer(now);
        if (!pardonIn(now, one, other)) {
            return NONE;
        }
        past.keep();
        return much;
    }

    public int lunch(int one, int other) {
        if (!areTwo(one, other) || now.coins < 1 || now.lonelyOf(one) + now.lonelyOf(other) == 0) {
            return NONE;
        }
        past.offer(now);
        past.keep();
        now.coins -= 1;
        now.cheer(one, 2);
        now.cheer(other, 2);
        return now.lonelyOf(one);
    }

    public int teach(int person) {
        if (!isPerson(person) || now.coins < 3 || now.boreOf(person) == 0) {
            return NONE;
        }
        past.offer(now);
        past.keep();
        now.coins -= 3;
        put(now.bore, person, now.boreOf(person) - 1);
        return now.boreOf(person);
    }

    public int give(int n) {
        if (!isTold() || n < 1 || n > 50 || now.coins + n > MOST_COINS) {
            return NONE;
        }
        past.offer(now);
        past.keep();
        now.coins += n;
        return now.coins;
    }

    public int years(int n, long seed) {
        if (!isTold() || n < 1 || n > 30 || now.evening + n > MOST_EVENINGS) {
            return NONE;
        }
        draws = seed;
        for (int i = 0; i < n; i++) {
            past.offer(now);
            past.keep();
            sinAhead();
            now.pass(NONE);
            diary.write(now);
        }
        return now.evening;
    }

    public int undo() {
        return past.takeBack(now);
    }

    public int log(int i, int what) {
        if (i < 0 || i >= Log.lengthAt(now)) {
            return NONE;
        }
        return diary.read(now.evening - i, what);
    }

    public int step(int session, int i, int what) {
        if (!isSession(session)) {
            return HIDDEN;
        }
        Session steps = sessionAt(session);
        if (i < 0 || i >= steps.length || what < 0 || what > 2) {
            return HIDDEN;
        }
        return steps.part(i, what);
    }

    public int run(int session, int what) {
        if (!isSession(session) || !isTold() || what < 0 || what > 1) {
            return HIDDEN;
        }
        Session steps = sessionAt(session);
        State state = apartAt(0);
        state.copy(now);
        int done = 0;
        for (int i = 0; i < steps.length && stepIn(state, steps, i); i++) {
            done++;
        }
        if (what == 1) {
            return state.windows - now.windows;
        }
        return done == steps.length ? NONE : done;
    }

    public int perform(int session) {
        if (!isSession(session) || !isTold()) {
            return NONE;
        }
        Session steps = sessionAt(session);
        for (int i = 0; i < steps.length; i++) {
            past.offer(now);
            if (!stepIn(now, steps, i)) {
                return i;
            }
            past.keep();
            if (steps.part(i, 0) == Session.EVENING) {
                diary.write(now);
            }
        }
        return steps.length;
    }

    public int owed(int one, int other) {
        return areTwo(one, other) ? now.owes(one, other) : NONE;
    }

    public int tonight() {
        if (!isTold()) {
            return NONE;
        }
        State state = copyApart();
        state.book(NONE);
        return rowOf(state.seat, state.people);
    }

    public int served() {
        if (!isTold()) {
            return NONE;
        }
        State state = copyApart();
        for (int i = 0; i <= 99; i++) {
            if (state.allDebt() == 0) {
                return i;
            }
            state.pass(NONE);
        }
        return NONE;
    }

    public int sooner() {
        if (!isTold()) {
            return NONE;
        }
        int most = 0;
        for (int one = 0; one < now.people; one++) {
            most = Math.max(most, now.debtOf(one));
        }
        for (int group = 0; group < 1 << now.people; group++) {
            int size = Integer.bitCount(group);
            if (size == 3) {
                most = Math.max(most, now.debtWithin(group));
            } else if (size == 5) {
                most = Math.max(most, (now.debtWithin(group) + 1) / 2);
            }
        }
        return most;
    }

    public int matched(int what) {
        if (!isTold() || what < 0 || what > 1) {
            return NONE;
        }
        int bestRow = NONE;
        int most = NONE;
        for (int i = 0; i < rows.count; i++) {
            int gone = lonelinessGone(rows.seatsOf(i));
            if (gone > most) {
                most = gone;
                bestRow = rows.rowAt(i);
            }
        }
        return what == 0 ? bestRow : most;
    }

    public int firm(int i) {
        if (!isTold()) {
            return NONE;
        }
        int found = 0;
        for (int k = 0; k < rows.count; k++) {
            if (isFirm(rows.seatsOf(k))) {
                if (found == i) {
                    return rows.rowAt(k);
                }
                found++;
            }
        }
        return i == NONE ? found : NONE;
    }

    public int given(int wrong, int n, boolean more) {
        if (!isWrong(wrong) || n < 1 || n > MOST_WORTH || givens.count >= MOST_GIVEN) {
            return NONE;
        }
        givens.add(wrong, n, more);
        return givens.count;
    }

    public int graves(int wrong, int i) {
        if (!isWrong(wrong)) {
            return NONE;
        }
        fit(wrong);
        int found = 0;
        for (int grave = 1; grave <= MOST_GRAVE; grave++) {
            if (at(givens.worths, grave) > 0) {
                if (found == i) {
                    return grave;
                }
                found++;
            }
        }
        return i == NONE ? found : NONE;
    }

    public int ask(int wrong) {
        if (!isWrong(wrong)) {
            return NONE;
        }
        int fitting = fit(wrong);
        if (fitting == 0) {
            return NONE;
        }
        int best = NONE;
        int least = MOST_GRAVE + 1;
        for (int n = 1; n <= MOST_WORTH; n++) {
            int more = givens.worthsFrom(n);
            int far = Math.abs(more - (fitting - more));
            if (far < least) {
                least = far;
                best = n;
            }
        }
        return best;
    }

    public int crime(int one, int other, int n) {
        if (!areTwo(one, other) || n < 1 || n > MOST_WORTH) {
            return NONE;
        }
        for (int grave = 1; grave <= MOST_GRAVE; grave++) {
            if (worthBy(now, one, other, grave) >= n) {
                return grave;
            }
        }
        return NONE;
    }

    public int game(int one, int other, int x, int y, int what) {
        if (!areTwo(one, other) || x < 0 || x >= MOST_PEOPLE || y < 0 || y >= MOST_PEOPLE) {
            return HIDDEN;
        }
        switch (what) {
            case 0: return gains(one, other, x, y);
            case 1: return gains(other, one, y, x);
            default: return HIDDEN;
        }
    }

    public int rests(int one, int other, int i) {
        if (!areTwo(one, other)) {
            return NONE;
        }
        int found = 0;
        for (int x = 0; x < now.people; x++) {
            for (int y = 0; y < now.people; y++) {
                if (isBest(one, other, x, y) && isBest(other, one, y, x)) {
                    if (found == i) {
                        return 10 * x + y;
                    }
                    found++;
                }
            }
        }
        return i == NONE ? found : NONE;
    }

    public int odds(int person, int n, int chance) {
        if (!isPerson(person) || n < 0 || n > MOST_ODDS || chance < 0 || chance > 100) {
            return NONE;
        }
        apartAt(n).copy(now);
        return (int) breaking(n, person, chance, PARTS);
    }

    public int all(int what) {
        if (!isTold()) {
            return NONE;
        }
        switch (what) {
            case 0:
            case 1:
            case 2:
            case 3: return foremost(what);
            case 4: return (1 << county.wrongs) - 1 - now.sentenced;
            case 5: return now.allDebt();
            case 6: return freePeople();
            case 7: return now.windows;
            case 8: return neverSitting();
            case 9: return party();
            default: return NONE;
        }
    }

    public int circle(int person, int what) {
        if (!isPerson(person)) {
            return NONE;
        }
        switch (what) {
            case 0: return county.wrongsBy(person);
            case 1: return county.wrongsAgainst(person);
            case 2: return circleOf(person);
            default: return NONE;
        }
    }

    public int image() {
        if (!isTold()) {
            return NONE;
        }
        kept.copy(now);
        diary.keep(now);
        imaged = true;
        return now.evening;
    }

    public int back() {
        if (!imaged) {
            return NONE;
        }
        now.copy(kept);
        diary.restore(now);
        past.forget();
        return now.evening;
    }

    public int count(int what) {
        switch (what) {
            case 0: return county.people;
            case 1: return county.wrongs;
            case 2: return lawCount;
            case 3: return sessionCount;
            case 4: return tape.length;
            case 5: return lawHeld;
            case 6: return now.evening;
            case 7: return now.coins;
            case 8: return isTold() ? county.mostWorth() : 0;
            case 9: return sinBelow;
            case 10: return givens.count;
            case 11: return Log.lengthAt(now);
            case 12: return past.count;
            default: return HIDDEN;
        }
    }

    private static int at(int[] row, int i) {
        return i >= 0 && i < row.length ? row[i] : 0;
    }

    private static void put(int[] row, int i, int value) {
        if (i >= 0 && i < row.length) {
            row[i] = value;
        }
    }

    private static boolean holds(int bits, int i) {
        return (bits >> i & 1) == 1;
    }

    private boolean isTold() {
        return county.people > 0;
    }

    private boolean isPerson(int person) {
        return person >= 0 && person < county.people;
    }

    private boolean areTwo(int one, int other) {
        return isPerson(one) && isPerson(other) && one != other;
    }

    private boolean isWrong(int wrong) {
        return wrong >= 0 && wrong < county.wrongs;
    }

    private boolean isSession(int session) {
        return session >= 0 && session < sessionCount;
    }

    private Session sessionAt(int i) {
        Session found = i >= 0 && i < sessions.length ? sessions[i] : null;
        return found == null ? new Session() : found;
    }

    private Law lawAt(int i) {
        Law found = i >= 0 && i < laws.length ? laws[i] : null;
        return found == null ? new Law() : found;
    }

    private State apartAt(int i) {
        State found = i >= 0 && i < apart.length ? apart[i] : null;
        return found == null ? new State() : found;
    }

    private State copyApart() {
        State state = apartAt(0);
        state.copy(now);
        return state;
    }

    // A refused text may leave traces only where nothing is told yet: in the draft, in the law or session behind the last.
    private boolean readAs(int sort) {
        switch (sort) {
            case 0: return draft.read(tape);
            case 1: return lawAt(lawCount).read(tape);
            default: return sessionAt(sessionCount).read(tape);
        }
    }

    private int settle() {
        County old = county;
        county = draft;
        draft = old;
        told.begin(county);
        now.copy(told);
        past.forget();
        imaged = false;
        givens.count = 0;
        rows.make(county.people);
        return county.people;
    }

    private int worthBy(State state, int who, int whom, int grave) {
        int worth;
        if (lawHeld == NONE) {
            worth = 2 * grave + county.hardOf(who) - state.lonelyOf(whom) / 2;
        } else {
            put(letters, 0, grave);
            put(letters, 1, county.hardOf(who));
            put(letters, 2, state.lonelyOf(whom));
            put(letters, 3, state.boreOf(whom));
            put(letters, 4, Integer.bitCount(county.wrongsBy(who) & state.sentenced));
            put(letters, 5, state.evening);
            worth = lawAt(lawHeld).worth(letters);
        }
        return Math.max(1, Math.min(worth, county.mostWorth()));
    }

    private boolean sentenceIn(State state, int wrong) {
        if (!isWrong(wrong) || state.isSentenced(wrong)) {
            return false;
        }
        int who = county.whoOf(wrong);
        int whom = county.whomOf(wrong);
        state.owe(who, whom, worthBy(state, who, whom, county.graveOf(wrong)));
        state.sentenced |= 1 << wrong;
        return true;
    }

    private boolean eveningIn(State state) {
        if (!isTold() || state.evening >= MOST_EVENINGS) {
            return false;
        }
        state.pass(NONE);
        return true;
    }

    private boolean appealIn(State state, int one, int other) {
        if (!areTwo(one, other) || state.owes(one, other) < 2 || state.coins < 2) {
            return false;
        }
        state.coins -= 2;
        state.owe(one, other, -(state.owes(one, other) / 2));
        return true;
    }

    private boolean pardonIn(State state, int one, int other) {
        if (!areTwo(one, other) || state.owes(one, other) < 1 || state.coins < 4) {
            return false;
        }
        state.coins -= 4;
        state.owe(one, other, -state.owes(one, other));
        return true;
    }

    private boolean stepIn(State state, Session steps, int i) {
        int one = steps.part(i, 1);
        int other = steps.part(i, 2);
        switch (steps.part(i, 0)) {
            case Session.SENTENCE: return sentenceIn(state, one);
            case Session.EVENING: return eveningIn(state);
            case Session.APPEAL: return appealIn(state, one, other);
            case Session.PARDON: return pardonIn(state, one, other);
            default: return false;
        }
    }

    private void sinAhead() {
        if (draw(10) >= sinBelow) {
            return;
        }
        int one = draw(now.people);
        int other = draw(now.people);
        int much = draw(9) + 1;
        if (one != other) {
            now.owe(one, other, much);
        }
    }

    private int draw(int below) {
        draws = draws * 6364136223846793005L + 1442695040888963407L;
        return below > 0 ? (int) ((draws >>> 33) % below) : 0;
    }

    private static int rowOf(int[] seats, int people) {
        int row = 0;
        for (int i = 0; i < people; i++) {
            row = row * 10 + at(seats, i);
        }
        return row;
    }

    private int lonelinessGone(int[] seats) {
        int gone = 0;
        for (int one = 0; one < now.people; one++) {
            int other = at(seats, one);
            if (other != ALONE) {
                if (now.owes(one, other) == 0) {
                    return NONE;
                }
                gone += now.lonelyOf(one);
            }
        }
        return gone;
    }

    private int liking(int one, int other) {
        return now.lonelyOf(one) - now.boreOf(other);
    }

    private int seatLiking(int[] seats, int one) {
        int other = at(seats, one);
        return other == ALONE ? 0 : liking(one, other);
    }

    private boolean isFirm(int[] seats) {
        for (int one = 0; one < now.people; one++) {
            if (seatLiking(seats, one) < 0) {
                return false;
            }
            for (int other = one + 1; other < now.people; other++) {
                if (at(seats, one) != other
                        && liking(one, other) > seatLiking(seats, one)
                        && liking(other, one) > seatLiking(seats, other)) {
                    return false;
                }
            }
        }
        return true;
    }

    private int fit(int wrong) {
        int fitting = 0;
        for (int grave = 1; grave <= MOST_GRAVE; grave++) {
            int worth = worthBy(told, county.whoOf(wrong), county.whomOf(wrong), grave);
            boolean fits = givens.allow(wrong, worth);
            put(givens.worths, grave, fits ? worth : 0);
            fitting += fits ? 1 : 0;
        }
        return fitting;
    }

    private int gains(int one, int other, int named, int otherNamed) {
        int gain = named == one || !isPerson(named) ? NOBODY : liking(one, named);
        if (named == otherNamed) {
            gain -= 3;
        }
        if (named == other && otherNamed == one) {
            gain += 2;
        }
        return gain;
    }

    private boolean isBest(int one, int other, int named, int otherNamed) {
        int gain = gains(one, other, named, otherNamed);
        for (int i = 0; i < now.people; i++) {
            if (gains(one, other, i, otherNamed) > gain) {
                return false;
            }
        }
        return true;
    }

    // The state with so many evenings ahead stands in that row of apart, so both branches start from it.
    private long breaking(int left, int person, int chance, long parts) {
        if (left <= 0 || left > MOST_ODDS) {
            return 0;
        }
        long inBed = parts * chance / 100;
        return breakingWith(left, person, chance, inBed, person)
                + breakingWith(left, person, chance, parts - inBed, NONE);
    }

    private long breakingWith(int left, int person, int chance, long parts, int bed) {
        if (parts <= 0) {
            return 0;
        }
        State next = apartAt(left - 1);
        next.copy(apartAt(left));
        next.pass(bed);
        if (holds(next.broken, person)) {
            return parts;
        }
        return breaking(left - 1, person, chance, parts);
    }

    private int foremost(int what) {
        int best = 0;
        for (int i = 1; i < now.people; i++) {
            if (sideOf(i, what) > sideOf(best, what)) {
                best = i;
            }
        }
        return best;
    }

    private int sideOf(int person, int what) {
        switch (what) {
            case 0: return now.lonelyOf(person);
            case 1: return now.boreOf(person);
            case 2: return county.hardOf(person);
            default: return now.debtOf(person);
        }
    }

    private int freePeople() {
        int bits = 0;
        for (int i = 0; i < now.people; i++) {
            if (now.debtOf(i) == 0) {
                bits |= 1 << i;
            }
        }
        return bits;
    }

    private int circleOf(int person) {
        int bits = 0;
        for (int i = 0; i < now.people; i++) {
            if (now.owes(person, i) > 0) {
                bits |= 1 << i;
            }
        }
        return bits;
    }

    private int neverSitting() {
        State state = copyApart();
        int bits = (1 << state.people) - 1;
        for (int evening = 0; evening < 20; evening++) {
            state.pass(NONE);
            for (int i = 0; i < state.people; i++) {
                if (at(state.seat, i) != ALONE) {
                    bits &= ~(1 << i);
                }
            }
        }
        return bits;
    }

    private int party() {
        int most = 0;
        for (int group = 0; group < 1 << now.people; group++) {
            if (isParty(group)) {
                most = Math.max(most, Integer.bitCount(group));
            }
        }
        return most;
    }

    private boolean isParty(int group) {
        for (int one = 0; one < now.people; one++) {
            int others = group & ~(1 << one);
            if (holds(group, one) && (circleOf(one) & others) != others) {
                return false;
            }
        }
        return true;
    }

    /** The bytes that are fed, and how far a reader has come in them. */
    private static final class Tape {
        static final int MOST = 240;

        final int[] bytes = new int[MOST];
        int length = 0;
        int place = 0;
        int wrong = NONE;

        static int bytesOf(int number) {
            int found = 0;
            for (int shift = 24; shift >= 0; shift -= 8) {
                found += (number >> shift & 255) == 0 ? 0 : 1;
            }
            return found;
        }

        void add(int number) {
            for (int shift = 24; shift >= 0; shift -= 8) {
                int sign = number >> shift & 255;
                if (sign != 0 && length < MOST) {
                    put(bytes, length, sign);
                    length++;
                }
            }
        }

        void start() {
            place = 0;
            wrong = NONE;
        }

        int here() {
            return place >= 0 && place < length && place < MOST ? bytes[place] : 0;
        }

        /** The next sign behind blanks; 0 at the end. */
        int next() {
            for (int i = 0; i < MOST && place >= 0 && place < length && place < MOST; i++) {
                if (bytes[place] != ' ') {
                    return bytes[place];
                }
                place++;
            }
            return 0;
        }

        boolean fail() {
            wrong = place;
            return false;
        }

        boolean need(int sign) {
            if (next() != sign) {
                return fail();
            }
            place++;
            return true;
        }

        static boolean isDigit(int sign) {
            return sign >= '0' && sign <= '9';
        }

        /** A number of so many digits at most, or NONE behind a fault. */
        int number(int digits, int least, int most) {
            int sign = next();
            int value = 0;
            int read = 0;
            for (; read < digits && isDigit(sign); read++) {
                value = value * 10 + sign - '0';
                place++;
                sign = here();
            }
            // A digit too many is the fault even behind a number that is out of bounds already.
            if (read == 0 || isDigit(sign)) {
                fail();
                return NONE;
            }
            if (value < least || value > most) {
                place--;
                fail();
                return NONE;
            }
            return value;
        }
    }

    /** What a text of a county tells. */
    private static final class County {
        private static final int RULES = 0;
        private static final int PERSON = 1;
        private static final int WRONG = 2;
        private static final int[] LETTERS = {'m', 'c', 0, 'l', 'b', 'h', 'a', 'v', 'g'};
        private static final int[] LEAST = {1, 0, 0, 0, 0, 0, 0, 0, 1};
        private static final int[] MOST = {30, 99, 0, 9, 9, 9, 5, 5, 9};
        private static final int[] WITHOUT = {20, 20, 0, 4, 2, 3, 0, 1, 3};

        final int[] rules = new int[3];
        final int[] persons = new int[3 * MOST_PEOPLE];
        final int[] wrongings = new int[3 * MOST_WRONGS];
        boolean ruled = false;
        int people = 0;
        int wrongs = 0;

        boolean read(Tape tape) {
            ruled = false;
            people = 0;
            wrongs = 0;
            fillIn(RULES, rules, 0);
            tape.start();
            for (int i = 0; i <= Tape.MOST; i++) {
                if (!clause(tape)) {
                    return false;
                }
                if (tape.next() == 0) {
                    return isWhole() || tape.fail();
                }
                if (!tape.need(';')) {
                    return false;
                }
            }
            return tape.fail();
        }

        private boolean isWhole() {
            boolean whole = people >= 2;
            for (int i = 0; i < wrongs; i++) {
                whole = whole && whoOf(i) < people && whomOf(i) < people && whoOf(i) != whomOf(i);
            }
            return whole;
        }

        private boolean clause(Tape tape) {
            int letter = tape.next();
            if (letter == 's' && !ruled) {
                ruled = true;
                return items(tape, RULES, rules, 0);
            }
            if (letter == 'p' && people < MOST_PEOPLE) {
                people++;
                return items(tape, PERSON, persons, 3 * (people - 1));
            }
            if (letter == 'w' && wrongs < MOST_WRONGS) {
                wrongs++;
                return items(tape, WRONG, wrongings, 3 * (wrongs - 1));
            }
            return tape.fail();
        }

        private static void fillIn(int kind, int[] row, int from) {
            for (int i = 0; i < 3; i++) {
                put(row, from + i, at(WITHOUT, 3 * kind + i));
            }
        }

        private static boolean items(Tape tape, int kind, int[] row, int from) {
            fillIn(kind, row, from);
            tape.place++;
            int there = 0;
            for (int i = 0; i <= 3; i++) {
                int letter = tape.next();
                if (letter == 0 || letter == ';') {
                    return true;
                }
                int item = itemOf(kind, letter);
                if (item == NONE || holds(there, item)) {
                    return tape.fail();
                }
                there |= 1 << item;
                tape.place++;
                int value = tape.number(2, at(LEAST, 3 * kind + item), at(MOST, 3 * kind + item));
                if (value == NONE) {
                    return false;
                }
                put(row, from + item, value);
            }
            return tape.fail();
        }

        private static int itemOf(int kind, int letter) {
            for (int i = 0; i < 3; i++) {
                if (at(LETTERS, 3 * kind + i) == letter) {
                    return i;
                }
            }
            return NONE;
        }

        int mostWorth() {
            return at(rules, 0);
        }

        int coinsTold() {
            return at(rules, 1);
        }

        int lonelyOf(int person) {
            return at(persons, 3 * person);
        }

        int boreOf(int person) {
            return at(persons, 3 * person + 1);
        }

        int hardOf(int person) {
            return at(persons, 3 * person + 2);
        }

        int whoOf(int wrong) {
            return at(wrongings, 3 * wrong);
        }

        int whomOf(int wrong) {
            return at(wrongings, 3 * wrong + 1);
        }

        int graveOf(int wrong) {
            return at(wrongings, 3 * wrong + 2);
        }

        int wrongsBy(int person) {
            int bits = 0;
            for (int i = 0; i < wrongs; i++) {
                bits |= whoOf(i) == person ? 1 << i : 0;
            }
            return bits;
        }

        int wrongsAgainst(int person) {
            int bits = 0;
            for (int i = 0; i < wrongs; i++) {
                bits |= whomOf(i) == person ? 1 << i : 0;
            }
            return bits;
        }
    }

    /** A law as signs put behind what they work on, so that weighing needs a stack and no recursion. */
    private static final class Law {
        private static final int LIMIT = 1000000;
        private static final int MOST_CODE = 256;
        private static final int MOST_STACK = 64;
        private static final int[] LETTERS = {'g', 'h', 'l', 'b', 'n', 'd'};
        private static final int END = ';';
        private static final int NUMBER = 1000;
        private static final int LETTER = 500;

        final int[] code = new int[MOST_CODE];
        final int[] stack = new int[MOST_STACK];
        int length = 0;
        int top = 0;

        boolean read(Tape tape) {
            length = 0;
            tape.start();
            for (int i = 0; i <= Tape.MOST; i++) {
                if (!clause(tape)) {
                    return false;
                }
                if (tape.next() == 0) {
                    return true;
                }
                if (!tape.need(';')) {
                    return false;
                }
            }
            return tape.fail();
        }

        private boolean clause(Tape tape) {
            if (!tape.need('y') || !tape.need(':')) {
                return false;
            }
            int sign = tape.next();
            boolean begun = sign != '!' && sign != '(';
            if (begun && !sum(tape, 0)) {
                return false;
            }
            if (!begun || isComparing(tape.next())) {
                if (!condition(tape, 0, begun) || !tape.need('?')) {
                    return false;
                }
                emit('?');
                if (!sum(tape, 0)) {
                    return false;
                }
            }
            emit(END);
            return true;
        }

        // Begun: the first sum is read, because only what is behind it tells a condition from the worth itself.
        private boolean condition(Tape tape, int depth, boolean begun) {
            return unit(tape, depth, begun) && moreUnits(tape, depth) && moreTruths(tape, depth);
        }

        private boolean moreTruths(Tape tape, int depth) {
            for (int i = 0; i < Tape.MOST && tape.next() == '|'; i++) {
                tape.place++;
                if (!unit(tape, depth, false) || !moreUnits(tape, depth)) {
                    return false;
                }
                emit('|');
            }
            return true;
        }

        private boolean moreUnits(Tape tape, int depth) {
            for (int i = 0; i < Tape.MOST && tape.next() == '&'; i++) {
                tape.place++;
                if (!unit(tape, depth, false)) {
                    return false;
                }
                emit('&');
            }
            return true;
        }

        private boolean unit(Tape tape, int depth, boolean begun) {
            int sign = tape.next();
            if (!begun && (sign == '!' || sign == '(')) {
                return nested(tape, depth, sign);
            }
            if (!begun && !sum(tape, depth)) {
                return false;
            }
            int comparing = tape.next();
            if (!isComparing(comparing)) {
                return tape.fail();
            }
            tape.place++;
            if (!sum(tape, depth)) {
                return false;
            }
            emit(comparing);
            return true;
        }

        private boolean nested(Tape tape, int depth, int sign) {
            if (depth >= MOST_NESTED) {
                return tape.fail();
            }
            tape.place++;
            if (sign == '(') {
                return condition(tape, depth + 1, false) && tape.need(')');
            }
            if (!unit(tape, depth + 1, false)) {
                return false;
            }
            emit('!');
            return true;
        }

        private static boolean isComparing(int sign) {
            return sign == '=' || sign == '<' || sign == '>';
        }

        private boolean sum(Tape tape, int depth) {
            if (!term(tape, depth)) {
                return false;
            }
            for (int i = 0; i < Tape.MOST; i++) {
                int sign = tape.next();
                if (sign != '+' && sign != '-') {
                    return true;
                }
                tape.place++;
                if (!term(tape, depth)) {
                    return false;
                }
                emit(sign);
            }
            return tape.fail();
        }

        private boolean term(Tape tape, int depth) {
            if (!atom(tape, depth)) {
                return false;
            }
            for (int i = 0; i < Tape.MOST; i++) {
                int sign = tape.next();
                if (sign != '*' && sign != '/') {
                    return true;
                }
                tape.place++;
                if (!atom(tape, depth)) {
                    return false;
                }
                emit(sign);
            }
            return tape.fail();
        }

        private boolean atom(Tape tape, int depth) {
            int sign = tape.next();
            if (sign == '[') {
                if (depth >= MOST_NESTED) {
                    return tape.fail();
                }
                tape.place++;
                return sum(tape, depth + 1) && tape.need(']');
            }
            if (Tape.isDigit(sign)) {
                int value = tape.number(4, 0, 9999);
                emit(NUMBER + Math.max(0, value));
                return value != NONE;
            }
            for (int i = 0; i < LETTERS.length; i++) {
                if (at(LETTERS, i) == sign) {
                    tape.place++;
                    emit(LETTER + i);
                    return true;
                }
            }
            return tape.fail();
        }

        private void emit(int sign) {
            if (length < MOST_CODE) {
                put(code, length, sign);
                length++;
            }
        }

        int worth(int[] letters) {
            boolean passed = false;
            top = 0;
            for (int i = 0; i < length; i++) {
                int sign = at(code, i);
                if (sign == END) {
                    if (!passed) {
                        return pop();
                    }
                    passed = false;
                } else if (!passed && sign == '?') {
                    passed = pop() == 0;
                } else if (!passed) {
                    weigh(sign, letters);
                }
            }
            return 0;
        }

        private void weigh(int sign, int[] letters) {
            if (sign >= NUMBER) {
                push(sign - NUMBER);
            } else if (sign >= LETTER) {
                push(at(letters, sign - LETTER));
            } else if (sign == '!') {
                push(1 - pop());
            } else {
                int second = pop();
                long value = joined(sign, pop(), second);
                push((int) Math.max(-LIMIT, Math.min(LIMIT, value)));
            }
        }

        private static long joined(int sign, long a, long b) {
            switch (sign) {
                case '+': return a + b;
                case '-': return a - b;
                case '*': return a * b;
                case '/': return b == 0 ? 0 : a / b;
                case '=': return a == b ? 1 : 0;
                case '<': return a < b ? 1 : 0;
                case '>': return a > b ? 1 : 0;
                case '&': return a & b;
                default: return a | b;
            }
        }

        private void push(int value) {
            if (top >= 0 && top < MOST_STACK) {
                stack[top] = value;
                top++;
            }
        }

        private int pop() {
            if (top > 0 && top <= MOST_STACK) {
                top--;
                return stack[top];
            }
            return 0;
        }
    }

    /** The steps of a session. */
    private static final class Session {
        static final int SENTENCE = 0;
        static final int EVENING = 1;
        static final int APPEAL = 2;
        static final int PARDON = 3;
        private static final int[] LETTERS = {'s', 'e', 'a', 'p'};
        private static final int[] DIGITS = {1, 0, 2, 2};

        final int[] parts = new int[3 * MOST_STEPS];
        int length = 0;

        int part(int i, int what) {
            return at(parts, 3 * i + what);
        }

        boolean read(Tape tape) {
            length = 0;
            tape.start();
            for (int i = 0; i < MOST_STEPS; i++) {
                if (!oneStep(tape)) {
                    return false;
                }
                length++;
                if (tape.next() == 0) {
                    return true;
                }
                if (length == MOST_STEPS || !tape.need(';')) {
                    return tape.fail();
                }
            }
            return tape.fail();
        }

        private boolean oneStep(Tape tape) {
            int letter = tape.next();
            for (int kind = 0; kind < LETTERS.length; kind++) {
                if (at(LETTERS, kind) == letter) {
                    tape.place++;
                    put(parts, 3 * length, kind);
                    return digit(tape, 1, at(DIGITS, kind)) && digit(tape, 2, at(DIGITS, kind));
                }
            }
            return tape.fail();
        }

        private boolean digit(Tape tape, int what, int digits) {
            int value = NONE;
            if (what <= digits) {
                int sign = tape.next();
                if (!Tape.isDigit(sign)) {
                    return tape.fail();
                }
                value = sign - '0';
                tape.place++;
            }
            put(parts, 3 * length + what, value);
            return true;
        }
    }

    /** All that evenings and acts change, but the log. */
    private static final class State {
        final int[] debts = new int[MOST_PEOPLE * MOST_PEOPLE];
        final int[] lonely = new int[MOST_PEOPLE];
        final int[] bore = new int[MOST_PEOPLE];
        final int[] seat = new int[MOST_PEOPLE];
        int people = 0;
        int sentenced = 0;
        int coins = 0;
        int windows = 0;
        int evening = 0;
        int sat = 0;
        int broken = 0;

        void begin(County county) {
            people = county.people;
            sentenced = 0;
            coins = county.coinsTold();
            windows = 0;
            evening = 0;
            for (int i = 0; i < debts.length; i++) {
                put(debts, i, 0);
            }
            for (int i = 0; i < people; i++) {
                put(lonely, i, county.lonelyOf(i));
                put(bore, i, county.boreOf(i));
            }
        }

        void copy(State other) {
            people = other.people;
            sentenced = other.sentenced;
            coins = other.coins;
            windows = other.windows;
            evening = other.evening;
            for (int i = 0; i < debts.length; i++) {
                put(debts, i, at(other.debts, i));
            }
            for (int i = 0; i < MOST_PEOPLE; i++) {
                put(lonely, i, at(other.lonely, i));
                put(bore, i, at(other.bore, i));
            }
        }

        int lonelyOf(int person) {
            return at(lonely, person);
        }

        int boreOf(int person) {
            return at(bore, person);
        }

        boolean isSentenced(int wrong) {
            return holds(sentenced, wrong);
        }

        void cheer(int person, int much) {
            put(lonely, person, Math.max(0, lonelyOf(person) - much));
        }

        int owes(int one, int other) {
            if (one < 0 || one >= MOST_PEOPLE || other < 0 || other >= MOST_PEOPLE) {
                return 0;
            }
            return at(debts, one * MOST_PEOPLE + other);
        }

        void owe(int one, int other, int more) {
            int much = Math.min(MOST_OWED, owes(one, other) + more);
            put(debts, one * MOST_PEOPLE + other, much);
            put(debts, other * MOST_PEOPLE + one, much);
        }

        int debtOf(int person) {
            int sum = 0;
            for (int i = 0; i < people; i++) {
                sum += owes(person, i);
            }
            return sum;
        }

        int debtWithin(int group) {
            int sum = 0;
            for (int one = 0; one < people; one++) {
                for (int other = one + 1; other < people; other++) {
                    if (holds(group, one) && holds(group, other)) {
                        sum += owes(one, other);
                    }
                }
            }
            return sum;
        }

        int allDebt() {
            return debtWithin((1 << people) - 1);
        }

        private boolean isFree(int person, int bed) {
            return person != bed && at(seat, person) == ALONE;
        }

        /** Seats who sit together that evening, all but the one in bed. */
        void book(int bed) {
            for (int i = 0; i < MOST_PEOPLE; i++) {
                put(seat, i, ALONE);
            }
            for (int i = 0; i < MOST_PEOPLE / 2; i++) {
                seatTwo(bed);
            }
        }

        private void seatTwo(int bed) {
            int most = 0;
            int first = 0;
            int second = 0;
            for (int one = 0; one < people; one++) {
                for (int other = one + 1; other < people; other++) {
                    if (owes(one, other) > most && isFree(one, bed) && isFree(other, bed)) {
                        most = owes(one, other);
                        first = one;
                        second = other;
                    }
                }
            }
            if (most > 0) {
                put(seat, first, second);
                put(seat, second, first);
            }
        }

        void pass(int bed) {
            book(bed);
            evening++;
            sat = 0;
            broken = 0;
            for (int i = 0; i < people; i++) {
                int other = at(seat, i);
                if (other != ALONE) {
                    sat++;
                    cheer(i, 1);
                    if (i < other) {
                        owe(i, other, -1);
                    }
                }
            }
            for (int i = 0; i < people; i++) {
                if (at(seat, i) == ALONE) {
                    brood(i);
                }
            }
        }

        private void brood(int person) {
            if (lonelyOf(person) < 9) {
                put(lonely, person, lonelyOf(person) + 1);
                return;
            }
            put(lonely, person, 5);
            windows++;
            broken |= 1 << person;
            for (int i = 0; i < people; i++) {
                if (i != person) {
                    owe(person, i, 1);
                }
            }
        }
    }

    /** The states ahead of the latest acts; the row behind the last one takes a state whose act may yet be refused. */
    private static final class Past {
        private static final int ROWS = MOST_UNDONE + 1;

        final State[] states = new State[ROWS];
        int first = 0;
        int count = 0;

        Past() {
            for (int i = 0; i < states.length; i++) {
                states[i] = new State();
            }
        }

        private State last() {
            int i = (first + count) % ROWS;
            State found = i >= 0 && i < states.length ? states[i] : null;
            return found == null ? new State() : found;
        }

        void offer(State now) {
            last().copy(now);
        }

        void keep() {
            if (count < MOST_UNDONE) {
                count++;
            } else {
                first = (first + 1) % ROWS;
            }
        }

        int takeBack(State now) {
            if (count == 0) {
                return NONE;
            }
            count--;
            now.copy(last());
            return count;
        }

        void forget() {
            count = 0;
        }
    }

    /** A note for each evening by its number, so that undone evenings leave the earlier notes as they were. */
    private static final class Log {
        final int[] notes = new int[MOST_EVENINGS + 1];
        final int[] keptNotes = new int[MOST_LOG];

        static int lengthAt(State now) {
            return Math.min(MOST_LOG, now.evening);
        }

        void write(State now) {
            put(notes, now.evening, now.allDebt() << 9 | now.broken << 3 | now.sat);
        }

        int read(int evening, int what) {
            int note = at(notes, evening);
            switch (what) {
                case 0: return note & 7;
                case 1: return note >> 3 & 63;
                case 2: return note >> 9;
                default: return NONE;
            }
        }

        void keep(State now) {
            for (int i = 0; i < MOST_LOG; i++) {
                put(keptNotes, i, at(notes, now.evening - i));
            }
        }

        void restore(State now) {
            for (int i = 0; i < MOST_LOG; i++) {
                put(notes, now.evening - i, at(keptNotes, i));
            }
        }
    }

    /** What was given of how much wrongs were worth; what each grave would be worth where it fits (else 0). */
    private static final class Given {
        final int[] wrongs = new int[MOST_GIVEN];
        final int[] bounds = new int[MOST_GIVEN];
        final boolean[] more = new boolean[MOST_GIVEN];
        final int[] worths = new int[MOST_GRAVE + 1];
        int count = 0;

        void add(int wrong, int n, boolean orMore) {
            if (count >= 0 && count < MOST_GIVEN) {
                wrongs[count] = wrong;
                bounds[count] = n;
                more[count] = orMore;
                count++;
            }
        }

        boolean allow(int wrong, int worth) {
            for (int i = 0; i < count && i < MOST_GIVEN; i++) {
                if (wrongs[i] == wrong && worth >= bounds[i] != more[i]) {
                    return false;
                }
            }
            return true;
        }

        int worthsFrom(int n) {
            int found = 0;
            for (int grave = 1; grave <= MOST_GRAVE; grave++) {
                found += at(worths, grave) >= n ? 1 : 0;
            }
            return found;
        }
    }

    /** All rows by which anybody may sit with anybody, rising. */
    private static final class Rows {
        final int[] rows = new int[MOST_ROWS];
        final int[] seats = new int[MOST_PEOPLE];
        int count = 0;
        int people = 0;

        void make(int persons) {
            count = 0;
            people = persons;
            for (int i = 0; i < MOST_PEOPLE; i++) {
                put(seats, i, NONE);
            }
            seatFrom(0);
        }

        // Lower digits first and alone last, person by person, so that the rows come rising.
        private void seatFrom(int person) {
            if (person >= people || person >= MOST_PEOPLE) {
                add();
                return;
            }
            if (at(seats, person) != NONE) {
                seatFrom(person + 1);
                return;
            }
            for (int other = person + 1; other < people; other++) {
                if (at(seats, other) == NONE) {
                    put(seats, person, other);
                    put(seats, other, person);
                    seatFrom(person + 1);
                    put(seats, other, NONE);
                }
            }
            put(seats, person, ALONE);
            seatFrom(person + 1);
            put(seats, person, NONE);
        }

        private void add() {
            if (count < MOST_ROWS) {
                put(rows, count, rowOf(seats, people));
                count++;
            }
        }

        int rowAt(int i) {
            return at(rows, i);
        }

        int[] seatsOf(int i) {
            int rest = rowAt(i);
            for (int person = people - 1; person >= 0; person--) {
                put(seats, person, rest % 10);
                rest /= 10;
            }
            return seats;
        }
    }
}
