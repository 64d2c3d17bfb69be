/**
 * Clubs that buy, lend and swap players, as DOC.md tells it. Each public method checks its own arguments
 * and answers BAD, NOT, FULL or a refusal without changing anything; the classes inside hold the state.
 */
public final class PlayerMoves {
    public static final int BAD = -1, NOT = -2, FULL = -3, VOID = -2000000000;

    private static final int NOTHING_THERE = -11, OTHER_KIND = -12, NO_PLACE = -13, SIZE_BELOW_ZERO = -14;
    /** What element() answers for each refusal: the least long. */
    private static final long NO_ELEMENT = 1L << 63;
    private static final int FIRST_DAY = -9999, LAST_DAY = 2999, LAST_MINUTE = 1439, DAYS_A_YEAR = 300, YEARS = 10;
    private static final int MOST_BODIES = 150, MOST_SPANS = 600, MOST_MOVES = 200, MOST_RULES = 16, MOST_BYTES = 160;
    private static final int MOST_COINS = 9999999, MOST_FEE = 999999, MOST_WAGE = 99999, MOST_WORTH = 99999;

    private static final int BODY = 0, PERSON = 1, PLAYER = 2, KEEPER = 3, YOUTH = 4, CLUB = 5, AGENT = 6, SCHOOL = 7;
    /** The KIND above each KIND; none above BODY. */
    private static final int[] ABOVE = {-1, 0, 1, 2, 2, 0, 1, 5};

    /** What a SPAN is by. */
    private static final int PAST_SPAN = 0, OWN_SPAN = 1, LOAN_SPAN = 2;
    /** The DAY of UNDOING of what is not UNDONE. */
    private static final int NEVER = 1000000;
    private static final int FIRST_TAUGHT_AGE = 12, LAST_TAUGHT_AGE = 22, HOME_GROWN_DAYS = 900;

    /** The terms of a SALE or LOAN told next, by their numbers. */
    private static final int FEE = 0, TILL = 1, WAGE = 2, SPREAD = 3, KEPT = 4, BONUS = 5, MATCHES = 6, LOAN_TILL = 7, OPTION = 8;
    private static final int[] LEAST_TERM = {0, 0, 0, 1, 0, 0, 1, 0, 0};
    private static final int[] MOST_TERM = {MOST_FEE, LAST_DAY, MOST_WAGE, 5, 50, MOST_FEE, 999, LAST_DAY, MOST_FEE};

    /** How a PLAYER goes. */
    private static final int SALE = 0, LOAN = 1, BY_OPTION = 2;

    /** What a RULE is used for. */
    private static final int MAY = 0, SQUAD = 1, CAP = 2;
    /** The NAMES of the TEXTS; a figure's number is its place here. */
    private static final String NAMES = "akhnywctildm";
    private static final int HOME_GROWN_ONES = 2, HELD_ONES = 3, YOUTHS = 4;
    /** The figures that squad() tells, in its order. */
    private static final int[] SQUAD_FIGURES = {HELD_ONES, HOME_GROWN_ONES, YOUTHS, 5, 6, 7, 8};

    private int today;
    private int minuteNow;
    private final League[] leagues = new League[4];
    private final Body[] bodies = new Body[MOST_BODIES];
    private int bodyCount;
    private int spanCount;
    private final Move[] moves = new Move[MOST_MOVES];
    private int moveCount;
    private final int[] terms = new int[9];
    /** Days by each CLUB, and by the CLUBS of each LEAGUE, of the PLAYER whose teaching was counted last. */
    private final int[] taughtBy = new int[MOST_BODIES];
    private final int[] taughtIn = new int[4];
    private final Rule[] rules = new Rule[MOST_RULES];
    private int ruleCount;
    private final Reader reader = new Reader();
    private final Deals dealing = new Deals();
    private final Rings swapping = new Rings();
    private final Buys buying = new Buys();
    private final Claims failing = new Claims();
    private final Acts acting = new Acts();
    private final Shelf[] shelves = new Shelf[6];

    public PlayerMoves() {
        for (int i = 0; i < leagues.length; i++) {
            leagues[i] = new League();
        }
        for (int i = 0; i < shelves.length; i++) {
            shelves[i] = new Shelf();
        }
        terms[SPREAD] = 1;
        terms[MATCHES] = 1;
    }

    // ---- time, leagues

    public int days(int n) {
        if (!within(n, 1, 300) || n > LAST_DAY - today) {
            return BAD;
        }
        today += n;
        minuteNow = 0;
        return today;
    }

    public int minute(int v) {
        if (!within(v, minuteNow, LAST_MINUTE)) {
            return BAD;
        }
        int was = minuteNow;
        minuteNow = v;
        return was;
    }

    public int window(int league, int from, int to) {
        League of = leagueAt(league);
        if (of == null || !within(from, 0, LAST_DAY) || !within(to, from, LAST_DAY)) {
            return BAD;
        }
        return of.addWindow(from, to) ? of.windows : FULL;
    }

    public int open(int league, int day) {
        League of = leagueAt(league);
        if (of == null || !within(day, 0, LAST_DAY)) {
            return BAD;
        }
        return bit(of.isOpen(day));
    }

    public int papers(int league, int v) {
        League of = leagueAt(league);
        if (of == null || !within(v, 0, LAST_MINUTE)) {
            return BAD;
        }
        int was = of.papersBy;
        of.papersBy = v;
        return was;
    }

    // ---- bodies

    public int body(int kind) {
        if (kind != BODY && kind != PERSON && kind != AGENT) {
            return BAD;
        }
        Body made = addBody(kind);
        return made == null ? FULL : made.number;
    }

    public int club(int kind, int league, int coins) {
        if ((kind != CLUB && kind != SCHOOL) || leagueAt(league) == null || !within(coins, 0, MOST_COINS)) {
            return BAD;
        }
        Body made = addBody(kind);
        if (made == null) {
            return FULL;
        }
        made.league = league;
        made.coins = coins;
        return made.number;
    }

    public int player(int kind, int born, int worth, int agent) {
        Body by = bodyAt(agent);
        boolean agentFits = agent == -1 || (by != null && by.kind == AGENT);
        if (!within(kind, PLAYER, YOUTH) || !within(born, -9000, 0) || !within(worth, 0, MOST_WORTH) || !agentFits) {
            return BAD;
        }
        Body made = addBody(kind);
        if (made == null) {
            return FULL;
        }
        made.born = born;
        made.worth = worth;
        made.agent = by;
        return made.number;
    }

    public int income(int club, int year, int v) {
        Body of = clubAt(club);
        if (of == null || !within(year, 0, YEARS - 1) || !within(v, 0, MOST_COINS)) {
            return BAD;
        }
        int was = of.incomes[year];
        of.incomes[year] = v;
        return was;
    }

    public int ofBody(int body, int what) {
        Body of = bodyAt(body);
        if (of == null) {
            return VOID;
        }
        if (what == 0) {
            return of.kind;
        }
        if (of.isPlayer()) {
            return ofPlayer(of, what);
        }
        if (of.isClub() && what == 1) {
            return of.league;
        }
        return of.isClub() && what == 2 ? of.coins : VOID;
    }

    // ---- spans

    public int past(int player, int club, int from, int to) {
        Body who = playerAt(player);
        Body where = clubAt(club);
        if (who == null || where == null || !arePastDays(from, to)) {
            return BAD;
        }
        if (spanCount >= MOST_SPANS) {
            return FULL;
        }
        addSpan(who, where, PAST_SPAN, from, to);
        return who.spanCount;
    }

    public int spans(int player, int shelf, int i, int n) {
        Body who = playerAt(player);
        Shelf from = shelfAt(shelf);
        if (who == null || from == null || !within(n, 1, 20)) {
            return BAD;
        }
        if (from.state != Shelf.EMPTY && !from.isRowOf(Shelf.SHORTS)) {
            return OTHER_KIND;
        }
        for (int came = 0; came < n; came++) {
            if (spanCount >= MOST_SPANS) {
                return came;
            }
            if (!addSpanFrom(who, from, i, came)) {
                who.lacksPapers = true;
                return came;
            }
        }
        who.lacksPapers = false;
        return n;
    }

    public int sign(int player, int club, int till, int wage) {
        Body who = playerAt(player);
        Body where = clubAt(club);
        if (who == null || where == null || !within(till, today, LAST_DAY) || !within(wage, 0, MOST_WAGE)) {
            return BAD;
        }
        if (who.owning(today) != null) {
            return NOT;
        }
        if (spanCount >= MOST_SPANS) {
            return FULL;
        }
        addSpan(who, where, OWN_SPAN, today, till).wage = wage;
        return 1;
    }

    public int at(int player, int day, int what) {
        Body who = playerAt(player);
        if (who == null || !within(day, FIRST_DAY, LAST_DAY) || !within(what, 0, 1)) {
            return BAD;
        }
        Span counts = what == 0 ? who.holding(day) : who.owning(day);
        return counts == null ? NOT : counts.club.number;
    }

    public int taught(int player, int club) {
        Body who = playerAt(player);
        Body by = clubAt(club);
        if (who == null || by == null) {
            return BAD;
        }
        countTeaching(who);
        return taughtBy[by.number];
    }

    // ---- moves

    public int term(int what, int v) {
        if (!within(what, 0, terms.length - 1) || !within(v, LEAST_TERM[what], MOST_TERM[what])) {
            return BAD;
        }
        int was = terms[what];
        terms[what] = v;
        return was;
    }

    public int why(int player, int club, int loan) {
        Body who = playerAt(player);
        Body buyer = clubAt(club);
        if (who == null || buyer == null || !within(loan, 0, 1)) {
            return BAD;
        }
        return whyNot(who, buyer, terms[FEE], loan == 0 ? SALE : LOAN);
    }

    public int sell(int player, int club) {
        Body who = playerAt(player);
        Body buyer = clubAt(club);
        if (who == null || buyer == null || terms[TILL] < today) {
            return BAD;
        }
        int why = whyNot(who, buyer, terms[FEE], SALE);
        if (why != 0) {
            return refusal(why);
        }
        return movesOrSpansAreFull() ? FULL : makeSale(who, buyer, terms[FEE], SALE);
    }

    public int lend(int player, int club) {
        Body who = playerAt(player);
        Body buyer = clubAt(club);
        if (who == null || buyer == null || terms[LOAN_TILL] < today) {
            return BAD;
        }
        int why = whyNot(who, buyer, terms[FEE], LOAN);
        if (why != 0) {
            return refusal(why);
        }
        return movesOrSpansAreFull() ? FULL : makeLoan(who, buyer);
    }

    public int option(int move) {
        Move loan = moveAt(move);
        if (loan == null || terms[TILL] < today) {
            return BAD;
        }
        if (!loan.isLoan || loan.option == 0 || loan.undone || today - 1 > loan.span.to) {
            return NOT;
        }
        Span owned = loan.player.owning(today);
        if (owned == null || owned.club != loan.seller) {
            return NOT;
        }
        int why = whyNot(loan.player, loan.buyer, loan.option, BY_OPTION);
        if (why != 0) {
            return refusal(why);
        }
        return movesOrSpansAreFull() ? FULL : makeSale(loan.player, loan.buyer, loan.option, BY_OPTION);
    }

    public int ofMove(int move, int what) {
        Move of = moveAt(move);
        if (of == null) {
            return VOID;
        }
        switch (what) {
            case 0: return of.player.number;
            case 1: return of.seller.number;
            case 2: return of.buyer.number;
            case 3: return of.fee;
            case 4: return of.span.from;
            case 5: return bit(of.isLoan);
            case 6: return bit(of.undone);
            case 7: return of.keptPaid;
            case 8: return of.sharesPaid;
            case 9: return of.agentPaid;
            case 10: return of.bonusPaid;
            default: return VOID;
        }
    }

    public int share(int move, int club) {
        Move of = moveAt(move);
        Body to = clubAt(club);
        if (of == null || to == null) {
            return BAD;
        }
        return of.shareOf(to.number);
    }

    public int play(int player, int n) {
        Body who = playerAt(player);
        if (who == null || !within(n, 1, 60)) {
            return BAD;
        }
        Span counts = who.holding(today);
        if (counts == null) {
            return NOT;
        }
        for (int i = 0; i < moveCount; i++) {
            if (moves[i].player == who && moves[i].buyer == counts.club) {
                moves[i].countMatches(n);
            }
        }
        if (who.matches == null) {
            who.matches = new int[MOST_BODIES];
        }
        who.matches[counts.club.number] += n;
        return who.matches[counts.club.number];
    }

    public int undo(int move) {
        Move undoing = moveAt(move);
        if (undoing == null) {
            return BAD;
        }
        if (undoing.undone) {
            return NOT;
        }
        for (int i = undoing.number + 1; i < moveCount; i++) {
            if (moves[i].player == undoing.player && !moves[i].undone) {
                return -100 - i;
            }
        }
        undoing.undone = true;
        undoing.span.undoneOn = today;
        payBack(undoing);
        return 1;
    }

    // ---- squads, caps, rules

    public int squad(int club, int what) {
        Body of = clubAt(club);
        if (of == null || !within(what, 0, SQUAD_FIGURES.length - 1)) {
            return BAD;
        }
        return figure(SQUAD_FIGURES[what], of, null, null);
    }

    public int feed(int n, int v) {
        if (!within(n, 1, 4)) {
            return BAD;
        }
        return reader.take(n, v) ? reader.tapeLength : FULL;
    }

    public int rule(int what, int from) {
        if (!isLeagueAndUse(what) || !within(from, 0, LAST_DAY)) {
            return BAD;
        }
        if (ruleCount >= MOST_RULES) {
            return FULL;
        }
        int fault = reader.faultOfTape();
        if (fault >= 0) {
            reader.tapeLength = 0;
            return -100 - fault;
        }
        rules[ruleCount] = new Rule(what, today, from, reader.tapeText(), reader.names);
        reader.tapeLength = 0;
        ruleCount++;
        return ruleCount - 1;
    }

    public int inForce(int what, int d, int k) {
        if (!isLeagueAndUse(what) || !within(d, 0, LAST_DAY) || !within(k, 0, LAST_DAY)) {
            return BAD;
        }
        return ruleInForce(what, d, k);
    }

    public int holds(int use, int club, int player) {
        Body of = clubAt(club);
        Body who = playerAt(player);
        boolean playerFits = use == MAY ? who != null : player == -1;
        if (!within(use, MAY, CAP) || of == null || !playerFits) {
            return BAD;
        }
        int broken = brokenLine(ruleToday(use, of), of, who, null);
        return broken < 0 ? NOT : broken;
    }

    public int tryCap(int rule, int league) {
        if (!within(rule, 0, ruleCount - 1) || leagueAt(league) == null || rules[rule].use() != CAP) {
            return BAD;
        }
        int broken = 0;
        for (int i = 0; i < bodyCount; i++) {
            if (bodies[i].isClub() && bodies[i].league == league && brokenLine(rules[rule], bodies[i], null, null) >= 0) {
                broken++;
            }
        }
        return broken;
    }

    // ---- deals, rings, buys, claims

    public int deal(int player, int club, int fee, int other) {
        Body who = playerAt(player);
        Body buyer = clubAt(club);
        if (who == null || buyer == null || !within(fee, 0, MOST_FEE)) {
            return BAD;
        }
        Span owned = who.owning(today);
        if (owned == null || owned.club == buyer || !within(other, -1, 5) || other == dealing.count) {
            return BAD;
        }
        return dealing.add(who, buyer, fee, other) ? dealing.count : FULL;
    }

    public int chain() {
        return dealing.count == 0 ? BAD : dealing.takeGreatest(today);
    }

    public int wish(int wants) {
        if (!within(wants, 0, 255) || (wants >> swapping.count & 1) != 0) {
            return BAD;
        }
        return swapping.add(wants) ? swapping.count : FULL;
    }

    public int rings() {
        return swapping.count == 0 ? BAD : swapping.takeMost();
    }

    public int gets(int i) {
        if (!within(i, 0, swapping.swapped - 1)) {
            return BAD;
        }
        return swapping.gotten[i] == i ? NOT : swapping.gotten[i];
    }

    public int candidate(int what, int worth) {
        boolean fits = within(what, 0, 999913) && what / 10 % 10 <= 1 && what % 10 <= 3;
        if (!fits || !within(worth, 0, MOST_WORTH)) {
            return BAD;
        }
        return buying.add(what, worth) ? buying.count : FULL;
    }

    public int buys(int purse, int most, int least) {
        if (!within(purse, 0, MOST_COINS) || !within(most, 0, 109) || !within(least, 0, 9999) || buying.count == 0) {
            return BAD;
        }
        return buying.takeBest(purse, most, least);
    }

    public int claim(int rank, int coins) {
        if (!within(rank, 0, 3) || !within(coins, 1, 999999)) {
            return BAD;
        }
        return failing.add(rank, coins) ? failing.count : FULL;
    }

    public int part(int assets) {
        if (!within(assets, 0, MOST_COINS) || failing.count == 0) {
            return BAD;
        }
        return failing.pay(assets);
    }

    public int got(int i) {
        return within(i, 0, failing.paidCount - 1) ? failing.paid[i] : BAD;
    }

    // ---- acts, shelves

    public int act(int body, int act, int x) {
        Body of = bodyAt(body);
        acting.ran = 0;
        if (of == null || !within(act, 0, 3)) {
            return 0;
        }
        return acting.perform(of, of.kind, act, x, 0);
    }

    public int trace(int i) {
        if (!within(i, 0, Math.min(acting.ran, acting.begun.length) - 1)) {
            return BAD;
        }
        return acting.begun[i];
    }

    public int keep(int shelf, int body) {
        Shelf on = shelfAt(shelf);
        Body what = bodyAt(body);
        if (on == null || (body != -1 && what == null)) {
            return BAD;
        }
        on.hold(what);
        return 1;
    }

    public int row(int shelf, int sort, int n) {
        Shelf on = shelfAt(shelf);
        if (on == null || !within(sort, Shelf.BYTES, Shelf.BOOLEANS) || n > Shelf.MOST_ELEMENTS) {
            return BAD;
        }
        if (n < 0) {
            return SIZE_BELOW_ZERO;
        }
        on.holdRow(sort, n);
        return 1;
    }

    public int put(int shelf, int i, long v) {
        int refused = elementRefusal(shelf, i);
        if (refused != 0) {
            return refused;
        }
        shelves[shelf].elements[i] = shelves[shelf].fitted(v);
        return 1;
    }

    public long element(int shelf, int i) {
        return elementRefusal(shelf, i) == 0 ? shelves[shelf].elements[i] : NO_ELEMENT;
    }

    public int shift(int shelf, int i, int other, int j, int n) {
        Shelf from = shelfAt(shelf);
        Shelf to = shelfAt(other);
        if (from == null || to == null) {
            return BAD;
        }
        if (from.state == Shelf.EMPTY || to.state == Shelf.EMPTY) {
            return NOTHING_THERE;
        }
        if (from.state != Shelf.ROW || !to.isRowOf(from.sort)) {
            return OTHER_KIND;
        }
        if (!from.has(i, n) || !to.has(j, n)) {
            return NO_PLACE;
        }
        System.arraycopy(from.elements, i, to.elements, j, n);
        return n;
    }

    public int taken(int shelf, int k) {
        Shelf from = shelfAt(shelf);
        if (from == null || !within(k, BODY, SCHOOL)) {
            return BAD;
        }
        if (from.state == Shelf.EMPTY) {
            return NOTHING_THERE;
        }
        return from.held != null && from.held.isUnder(k) ? from.held.kind : OTHER_KIND;
    }

    public int count(int what) {
        switch (what) {
            case 0: return bodyCount;
            case 1: return countClubs();
            case 2: return countPlayers(false);
            case 3: return spanCount;
            case 4: return countStandingMoves();
            case 5: return ruleCount;
            case 6: return today;
            case 7: return minuteNow;
            case 8: return reader.tapeLength;
            case 9: return countPlayers(true);
            case 10: return acting.ran;
            default: return BAD;
        }
    }

    // ---- what the calls look up

    private static boolean within(int v, int least, int most) {
        return v >= least && v <= most;
    }

    private static int bit(boolean is) {
        return is ? 1 : 0;
    }

    private League leagueAt(int number) {
        return within(number, 0, leagues.length - 1) ? leagues[number] : null;
    }

    private Body bodyAt(int number) {
        return within(number, 0, bodyCount - 1) ? bodies[number] : null;
    }

    private Body clubAt(int number) {
        Body found = bodyAt(number);
        return found != null && found.isClub() ? found : null;
    }

    private Body playerAt(int number) {
        Body found = bodyAt(number);
        return found != null && found.isPlayer() ? found : null;
    }

    private Move moveAt(int number) {
        return within(number, 0, moveCount - 1) ? moves[number] : null;
    }

    private Shelf shelfAt(int number) {
        return within(number, 0, shelves.length - 1) ? shelves[number] : null;
    }

    private int elementRefusal(int shelf, int i) {
        Shelf of = shelfAt(shelf);
        if (of == null) {
            return BAD;
        }
        if (of.state == Shelf.EMPTY) {
            return NOTHING_THERE;
        }
        if (of.state != Shelf.ROW) {
            return OTHER_KIND;
        }
        return of.has(i, 1) ? 0 : NO_PLACE;
    }

    private int ofPlayer(Body of, int what) {
        Span held = of.holding(today);
        Span owned = of.owning(today);
        switch (what) {
            case 1: return of.ageOn(today);
            case 2: return of.worth;
            case 3: return of.agent == null ? -1 : of.agent.number;
            case 4: return held == null ? -1 : held.club.number;
            case 5: return owned == null ? -1 : owned.club.number;
            case 6: return of.spanCount;
            case 7: return owned == null ? -1 : owned.to;
            case 8: return owned == null ? 0 : owned.wage;
            case 9: return bit(of.lacksPapers);
            default: return VOID;
        }
    }

    private int countClubs() {
        int n = 0;
        for (int i = 0; i < bodyCount; i++) {
            n += bit(bodies[i].isClub());
        }
        return n;
    }

    private int countPlayers(boolean freeAlone) {
        int n = 0;
        for (int i = 0; i < bodyCount; i++) {
            if (bodies[i].isPlayer() && (!freeAlone || bodies[i].owning(today) == null)) {
                n++;
            }
        }
        return n;
    }

    private int countStandingMoves() {
        int n = 0;
        for (int i = 0; i < moveCount; i++) {
            n += bit(!moves[i].undone);
        }
        return n;
    }

    // ---- bodies and spans that come

    /** The new BODY; null if they are FULL. */
    private Body addBody(int kind) {
        if (bodyCount >= MOST_BODIES) {
            return null;
        }
        Body made = new Body(bodyCount, kind);
        bodies[bodyCount] = made;
        bodyCount++;
        return made;
    }

    private Span addSpan(Body who, Body where, int sort, int from, int to) {
        Span told = new Span(spanCount, where, sort, from, to);
        spanCount++;
        who.append(told);
        return told;
    }

    private static boolean arePastDays(int from, int to) {
        return within(from, FIRST_DAY, 0) && within(to, from, 0);
    }

    /** Whether the three so many threes behind place i was there and as said; then it came. */
    private boolean addSpanFrom(Body who, Shelf shelf, int i, int threes) {
        if (!within(i, 0, Shelf.MOST_ELEMENTS) || !shelf.has(i + 3 * threes, 3)) {
            return false;
        }
        int place = i + 3 * threes;
        Body where = clubAt((int) shelf.elements[place]);
        int from = (int) shelf.elements[place + 1];
        int to = (int) shelf.elements[place + 2];
        if (where == null || !arePastDays(from, to)) {
            return false;
        }
        addSpan(who, where, PAST_SPAN, from, to);
        return true;
    }

    /** Fills taughtBy and taughtIn: a HOLDER stays the same between two changes of the SPANS, so whole stretches are counted. */
    private void countTeaching(Body who) {
        for (int i = 0; i < bodyCount; i++) {
            taughtBy[i] = 0;
        }
        for (int i = 0; i < taughtIn.length; i++) {
            taughtIn[i] = 0;
        }
        int last = Math.min(today, who.born + (LAST_TAUGHT_AGE + 1) * DAYS_A_YEAR - 1);
        int next;
        for (int day = who.born + FIRST_TAUGHT_AGE * DAYS_A_YEAR; day <= last; day = next) {
            next = Math.max(day + 1, Math.min(who.nextChange(day), last + 1));
            Span held = who.holding(day);
            if (held != null) {
                taughtBy[held.club.number] += next - day;
                taughtIn[held.club.league] += next - day;
            }
        }
    }

    // ---- why a move may not be

    /** What a MOVE that may not be answers. */
    private static int refusal(int why) {
        return why < 0 ? why : -20 - why;
    }

    private boolean movesOrSpansAreFull() {
        return moveCount >= MOST_MOVES || spanCount >= MOST_SPANS;
    }

    /** WHY a MOVE may not be, of one by OPTION the reasons 2 to 5 alone; NOT: he is FREE; 0: it may. */
    private int whyNot(Body who, Body buyer, int fee, int how) {
        Span owned = who.owning(today);
        if (owned == null) {
            return NOT;
        }
        if (how != BY_OPTION && (owned.club == buyer || isLentElsewhere(who, buyer, how))) {
            return 1;
        }
        League of = leagues[buyer.league];
        if (!of.isOpen(today)) {
            return 2;
        }
        if (minuteNow > of.papersBy) {
            return 3;
        }
        if (brokenLine(ruleToday(MAY, buyer), buyer, who, null) >= 0) {
            return 4;
        }
        if (buyer.coins < fee) {
            return 5;
        }
        return how != BY_OPTION && brokenLine(ruleToday(SQUAD, buyer), buyer, null, who) >= 0 ? 6 : 0;
    }

    /** Whether the SPAN that counts TODAY is a LOAN that is in the way. */
    private boolean isLentElsewhere(Body who, Body buyer, int how) {
        Span held = who.holding(today);
        return held != null && held.sort == LOAN_SPAN && (how == LOAN || held.club != buyer);
    }

    // ---- moves that are done and undone

    private int makeSale(Body who, Body buyer, int fee, int how) {
        Span owned = who.owning(today);
        if (owned == null) {
            return NOT;
        }
        Move sale = new Move(moveCount, who, owned.club, buyer, fee);
        sale.spread = terms[SPREAD];
        sale.matchesNeeded = terms[MATCHES];
        if (how == SALE) {
            sale.keptHundredths = terms[KEPT];
            sale.bonus = terms[BONUS];
        }
        payKept(sale, owned.move);
        payShares(sale);
        sale.agentPaid = who.agent == null ? 0 : hundredths(3, fee);
        sale.seller.coins += fee - sale.keptPaid - sale.sharesPaid;
        buyer.coins -= fee + sale.agentPaid;
        sale.span = addSpan(who, buyer, OWN_SPAN, today, terms[TILL]);
        sale.span.wage = terms[WAGE];
        return enter(sale);
    }

    private int makeLoan(Body who, Body buyer) {
        Span owned = who.owning(today);
        if (owned == null) {
            return NOT;
        }
        Move loan = new Move(moveCount, who, owned.club, buyer, terms[FEE]);
        loan.isLoan = true;
        loan.option = terms[OPTION];
        loan.seller.coins += loan.fee;
        buyer.coins -= loan.fee;
        loan.span = addSpan(who, buyer, LOAN_SPAN, today, terms[LOAN_TILL]);
        return enter(loan);
    }

    private int enter(Move made) {
        made.span.move = made;
        moves[moveCount] = made;
        moveCount++;
        return made.number;
    }

    /** So many hundredths of a sum, up. */
    private static int hundredths(int n, int of) {
        return (n * of + 99) / 100;
    }

    private static void payKept(Move sale, Move cameBy) {
        if (cameBy == null || sale.fee <= cameBy.fee) {
            return;
        }
        sale.keptPaid = hundredths(cameBy.keptHundredths, sale.fee - cameBy.fee);
        sale.keptTo = cameBy.seller;
        sale.keptTo.coins += sale.keptPaid;
    }

    private void payShares(Move sale) {
        countTeaching(sale.player);
        taughtBy[sale.seller.number] = 0;
        int inAll = 0;
        for (int i = 0; i < bodyCount; i++) {
            inAll += taughtBy[i];
        }
        if (inAll == 0) {
            return;
        }
        sale.shares = new int[bodyCount];
        sale.sharesPaid = hundredths(5, sale.fee);
        addParts(sale.sharesPaid, taughtBy, bodyCount, sale.shares);
        for (int i = 0; i < bodyCount; i++) {
            bodies[i].coins += sale.shares[i];
        }
    }

    /**
     * Parts a whole by weights and adds the parts: to each the whole part, the rest one by one to those with
     * the greatest rests, of like ones the earlier. Those that had one of the rest are told by their place in
     * that order, so no marks are kept.
     */
    private static void addParts(int whole, int[] weights, int n, int[] parts) {
        long sum = 0;
        for (int i = 0; i < n; i++) {
            sum += weights[i];
        }
        if (sum <= 0) {
            return;
        }
        long left = whole;
        for (int i = 0; i < n; i++) {
            long part = (long) whole * weights[i] / sum;
            parts[i] += (int) part;
            left -= part;
        }
        long latestRest = sum;
        int latest = -1;
        for (int given = 0; given < left && given < n; given++) {
            int next = -1;
            long nextRest = -1;
            for (int i = 0; i < n; i++) {
                long rest = (long) whole * weights[i] % sum;
                boolean isBehind = rest < latestRest || (rest == latestRest && i > latest);
                if (isBehind && rest > nextRest) {
                    next = i;
                    nextRest = rest;
                }
            }
            if (next < 0) {
                return;
            }
            parts[next]++;
            latest = next;
            latestRest = nextRest;
        }
    }

    private void payBack(Move undone) {
        undone.buyer.coins += undone.fee;
        undone.seller.coins -= undone.fee - undone.keptPaid - undone.sharesPaid;
        if (undone.keptTo != null) {
            undone.keptTo.coins -= undone.keptPaid;
        }
        for (int i = 0; i < bodyCount; i++) {
            bodies[i].coins -= undone.shareOf(i);
        }
    }

    // ---- figures and rules

    private static boolean isLeagueAndUse(int what) {
        return within(what, 0, 32) && what % 10 <= CAP;
    }

    private int ruleInForce(int what, int onDay, int asKnownOn) {
        for (int i = ruleCount - 1; i >= 0; i--) {
            if (rules[i].what == what && rules[i].made <= asKnownOn && rules[i].from <= onDay) {
                return i;
            }
        }
        return NOT;
    }

    /** The RULE of a USE in force TODAY for a CLUB; null: none. */
    private Rule ruleToday(int use, Body club) {
        int inForce = ruleInForce(10 * club.league + use, today, today);
        return inForce < 0 ? null : rules[inForce];
    }

    /** The first LINE of a RULE that does not hold; -1: all do, or there is no RULE. */
    private int brokenLine(Rule rule, Body club, Body who, Body joining) {
        if (rule == null) {
            return -1;
        }
        for (int name = 0; name < NAMES.length(); name++) {
            if ((rule.names >> name & 1) != 0) {
                reader.values[name] = figure(name, club, who, joining);
            }
        }
        return reader.brokenLineOf(rule.text);
    }

    /** What a NAME stands for. The one joining counts in the squad, as by WHY 6. */
    private int figure(int name, Body club, Body who, Body joining) {
        switch (name) {
            case 0: return who == null ? 0 : who.ageOn(today);
            case 1: return who == null ? 0 : who.kind;
            case HOME_GROWN_ONES: return countHeld(club, joining, HOME_GROWN_ONES);
            case HELD_ONES: return countHeld(club, joining, HELD_ONES);
            case YOUTHS: return countHeld(club, joining, YOUTHS);
            case 5: return wages(club);
            case 6: return wages(club) + spreadTo(club, year());
            case 7: return threeYearsCaps(club);
            case 8: return threeYearsIncome(club);
            case 9: return club.league;
            case 10: return year();
            default: return club.coins;
        }
    }

    private int year() {
        return today / DAYS_A_YEAR;
    }

    private int countHeld(Body club, Body joining, int which) {
        int n = 0;
        for (int i = 0; i < bodyCount; i++) {
            Body who = bodies[i];
            if (!who.isPlayer()) {
                continue;
            }
            Span held = who.holding(today);
            if (who != joining && (held == null || held.club != club)) {
                continue;
            }
            if (which == HOME_GROWN_ONES) {
                countTeaching(who);
                n += bit(taughtIn[club.league] >= HOME_GROWN_DAYS);
            } else {
                n += bit(which == HELD_ONES || who.kind == YOUTH);
            }
        }
        return n;
    }

    private int wages(Body club) {
        int sum = 0;
        for (int i = 0; i < bodyCount; i++) {
            Span owned = bodies[i].owning(today);
            if (owned != null && owned.club == club) {
                sum += owned.wage;
            }
        }
        return sum;
    }

    private int spreadTo(Body club, int year) {
        int sum = 0;
        for (int i = 0; i < moveCount; i++) {
            if (moves[i].buyer == club) {
                sum += moves[i].spreadTo(year);
            }
        }
        return sum;
    }

    private int threeYearsCaps(Body club) {
        int sum = 0;
        int wages = wages(club);
        for (int year = Math.max(0, year() - 2); year <= year(); year++) {
            sum += wages + spreadTo(club, year);
        }
        return sum;
    }

    private int threeYearsIncome(Body club) {
        int sum = 0;
        for (int year = Math.max(0, year() - 2); year <= year() && year < YEARS; year++) {
            sum += club.incomes[year];
        }
        return sum;
    }

    // ---- classes inside

    /** The WINDOWS of a LEAGUE, and the MINUTE by which its PAPERS must be in. */
    private static final class League {
        final int[] from = new int[6];
        final int[] to = new int[6];
        int windows;
        int papersBy = LAST_MINUTE;

        boolean addWindow(int first, int last) {
            if (windows >= from.length) {
                return false;
            }
            from[windows] = first;
            to[windows] = last;
            windows++;
            return true;
        }

        boolean isOpen(int day) {
            for (int i = 0; i < windows; i++) {
                if (within(day, from[i], to[i])) {
                    return true;
                }
            }
            return false;
        }
    }

    /** A BODY of any KIND; what its KIND does not have stays as it is made. */
    private static final class Body {
        final int number;
        final int kind;
        int league;
        int coins;
        final int[] incomes;
        int born;
        int worth;
        Body agent;
        boolean lacksPapers;
        /** SPANS as they were told, each with the next one. */
        Span firstSpan;
        Span lastSpan;
        int spanCount;
        /** MATCHES by HOLDERS' numbers; null ahead of the first. */
        int[] matches;

        Body(int number, int kind) {
            this.number = number;
            this.kind = kind;
            this.incomes = kind == CLUB || kind == SCHOOL ? new int[YEARS] : null;
        }

        boolean isClub() {
            return kind == CLUB || kind == SCHOOL;
        }

        boolean isPlayer() {
            return kind == PLAYER || kind == KEEPER || kind == YOUTH;
        }

        boolean isUnder(int other) {
            for (int k = kind; k >= 0; k = ABOVE[k]) {
                if (k == other) {
                    return true;
                }
            }
            return false;
        }

        int ageOn(int day) {
            return (day - born) / DAYS_A_YEAR;
        }

        void append(Span told) {
            if (lastSpan == null) {
                firstSpan = told;
            } else {
                lastSpan.next = told;
            }
            lastSpan = told;
            spanCount++;
        }

        /** The SPAN by which he has an OWNER on a DAY; null: none. */
        Span owning(int day) {
            Span latest = null;
            for (Span s = firstSpan; s != null; s = s.next) {
                if (s.sort == OWN_SPAN && s.from <= day && day < s.undoneOn) {
                    latest = s;
                }
            }
            return latest != null && latest.to >= day ? latest : null;
        }

        /** The SPAN that counts on a DAY; null: none. Of the OWN ones only the latest begun can lie on it. */
        Span holding(int day) {
            Span own = null;
            Span other = null;
            for (Span s = firstSpan; s != null; s = s.next) {
                if (s.from > day || day >= s.undoneOn) {
                    continue;
                }
                if (s.sort == OWN_SPAN) {
                    own = s;
                } else if (s.to >= day) {
                    other = s;
                }
            }
            if (own == null || own.to < day) {
                return other;
            }
            return other == null || other.number < own.number ? own : other;
        }

        /** The first DAY behind this one on which a SPAN begins, is over or is UNDONE. */
        int nextChange(int day) {
            int next = NEVER;
            for (Span s = firstSpan; s != null; s = s.next) {
                if (s.from > day && s.from < next) {
                    next = s.from;
                }
                if (s.to >= day && s.to + 1 < next) {
                    next = s.to + 1;
                }
                if (s.undoneOn > day && s.undoneOn < next) {
                    next = s.undoneOn;
                }
            }
            return next;
        }
    }

    /** A SPAN of a PLAYER at a CLUB. */
    private static final class Span {
        final int number;
        final Body club;
        final int sort;
        final int from;
        final int to;
        int wage;
        int undoneOn = NEVER;
        /** The MOVE by which it is; null of PAST ones and by sign(). */
        Move move;
        /** The next SPAN of the same PLAYER. */
        Span next;

        Span(int number, Body club, int sort, int from, int to) {
            this.number = number;
            this.club = club;
            this.sort = sort;
            this.from = from;
            this.to = to;
        }
    }

    /** A SALE or a LOAN, with what was PAID by it. */
    private static final class Move {
        final int number;
        final Body player;
        final Body seller;
        final Body buyer;
        final int fee;
        boolean isLoan;
        int option;
        Span span;
        boolean undone;
        int spread = 1;
        int keptHundredths;
        int keptPaid;
        Body keptTo;
        int sharesPaid;
        /** SHARES by CLUBS' numbers; null: none were PAID. */
        int[] shares;
        int agentPaid;
        int bonus;
        int matchesNeeded;
        int matchesTold;
        int bonusPaid;

        Move(int number, Body player, Body seller, Body buyer, int fee) {
            this.number = number;
            this.player = player;
            this.seller = seller;
            this.buyer = buyer;
            this.fee = fee;
        }

        int shareOf(int club) {
            return shares != null && within(club, 0, shares.length - 1) ? shares[club] : 0;
        }

        /** MATCHES told for the buyer; the BONUS is PAID once they are enough. */
        void countMatches(int n) {
            if (isLoan || undone) {
                return;
            }
            matchesTold += n;
            if (bonus > 0 && bonusPaid == 0 && matchesTold >= matchesNeeded) {
                bonusPaid = bonus;
                buyer.coins -= bonus;
                seller.coins += bonus;
            }
        }

        /** What is SPREAD to a YEAR of the FEE of a SALE that stands. */
        int spreadTo(int year) {
            int first = span.from / DAYS_A_YEAR;
            if (isLoan || undone || spread < 1 || year < first || year >= first + spread) {
                return 0;
            }
            return fee / spread + (year == first ? fee % spread : 0);
        }
    }

    /** A TEXT of a LEAGUE and a USE. */
    private static final class Rule {
        /** 10 times LEAGUE, and USE. */
        final int what;
        final int made;
        final int from;
        final byte[] text;
        /** The NAMES that stand in the TEXT, as bits. */
        final int names;

        Rule(int what, int made, int from, byte[] text, int names) {
            this.what = what;
            this.made = made;
            this.from = from;
            this.text = text;
            this.names = names;
        }

        int use() {
            return what % 10;
        }
    }

    /** THE TAPE, and the reading of TEXTS: a method for each of the grammar's parts; open is how many ( [ ! are open. */
    private static final class Reader {
        static final int MOST_OPEN = 8, END = -1;
        final byte[] tape = new byte[MOST_BYTES];
        int tapeLength;
        /** What the NAMES stand for; set ahead of the reading of a RULE. */
        final int[] values = new int[12];
        /** The NAMES that the latest reading met, as bits. */
        int names;
        private byte[] text = tape;
        private int length;
        private int at;
        private int fault;

        boolean take(int n, int v) {
            if (n > tape.length - tapeLength) {
                return false;
            }
            for (int i = 0; i < n; i++) {
                tape[tapeLength + i] = (byte) (v >>> 8 * i);
            }
            tapeLength += n;
            return true;
        }

        byte[] tapeText() {
            byte[] copy = new byte[tapeLength];
            System.arraycopy(tape, 0, copy, 0, tapeLength);
            return copy;
        }

        /** The FAULT of THE TAPE; -1: it has none. */
        int faultOfTape() {
            begin(tape, tapeLength);
            for (int line = 0; line <= length; line++) {
                anyOf(0);
                if (fault >= 0 || at >= length) {
                    return fault;
                }
                pass(';');
            }
            return fault;
        }

        /** The first LINE of a TEXT that does not hold; -1: all do. */
        int brokenLineOf(byte[] rule) {
            begin(rule, rule.length);
            for (int line = 0; line <= length; line++) {
                if (!anyOf(0)) {
                    return line;
                }
                if (at >= length) {
                    return -1;
                }
                pass(';');
            }
            return -1;
        }

        private void begin(byte[] read, int size) {
            text = read;
            length = Math.min(size, read.length);
            at = 0;
            fault = -1;
            names = 0;
        }

        private int peek() {
            return at < length ? text[at] & 255 : END;
        }

        private int fail() {
            if (fault < 0) {
                fault = at;
            }
            return 0;
        }

        private void pass(int sign) {
            if (fault < 0 && at < length && text[at] == sign) {
                at++;
            } else {
                fail();
            }
        }

        /** Q. Both sides are read to their ends, whatever the first one says. */
        private boolean anyOf(int open) {
            boolean holds = allOf(open);
            while (fault < 0 && at < length && text[at] == '|') {
                at++;
                holds |= allOf(open);
            }
            return holds;
        }

        /** A. */
        private boolean allOf(int open) {
            boolean holds = base(open);
            while (fault < 0 && at < length && text[at] == '&') {
                at++;
                holds &= base(open);
            }
            return holds;
        }

        /** B. */
        private boolean base(int open) {
            int sign = peek();
            if (sign == '!' || sign == '[') {
                if (open >= MOST_OPEN) {
                    fail();
                    return false;
                }
                at++;
                if (sign == '!') {
                    return !base(open + 1);
                }
                boolean holds = anyOf(open + 1);
                pass(']');
                return holds;
            }
            int left = sum(open);
            int relation = peek();
            if (fault >= 0 || (relation != '<' && relation != '=' && relation != '>')) {
                fail();
                return false;
            }
            at++;
            int right = sum(open);
            return relation == '<' ? left < right : relation == '>' ? left > right : left == right;
        }

        /** S. */
        private int sum(int open) {
            int value = product(open);
            while (fault < 0 && at < length && (text[at] == '+' || text[at] == '-')) {
                boolean adds = text[at] == '+';
                at++;
                int next = product(open);
                value = adds ? value + next : value - next;
            }
            return value;
        }

        /** P. */
        private int product(int open) {
            int value = operand(open);
            while (fault < 0 && at < length && (text[at] == '*' || text[at] == '/' || text[at] == '%')) {
                int sign = text[at];
                at++;
                int next = operand(open);
                if (sign == '*') {
                    value *= next;
                } else if (next == 0) {
                    value = 0;
                } else {
                    value = sign == '/' ? value / next : value % next;
                }
            }
            return value;
        }

        /** O. */
        private int operand(int open) {
            int sign = peek();
            if (within(sign, '0', '9')) {
                return number();
            }
            if (sign == '(' && open < MOST_OPEN) {
                at++;
                int value = sum(open + 1);
                pass(')');
                return value;
            }
            int name = sign < 0 ? -1 : NAMES.indexOf((char) sign);
            if (name < 0) {
                return fail();
            }
            at++;
            names |= 1 << name;
            return values[name];
        }

        private int number() {
            int value = 0;
            for (int digits = 0; digits < 7 && within(peek(), '0', '9'); digits++) {
                value = value * 10 + text[at] - '0';
                at++;
            }
            return value;
        }
    }

    /** DEALS of which all happen or none. */
    private static final class Deals {
        final Body[] players = new Body[6];
        final Body[] sellers = new Body[6];
        final Body[] buyers = new Body[6];
        final int[] fees = new int[6];
        final int[] others = new int[6];
        int count;

        boolean add(Body player, Body buyer, int fee, int other) {
            if (count >= fees.length) {
                return false;
            }
            players[count] = player;
            buyers[count] = buyer;
            fees[count] = fee;
            others[count] = other;
            count++;
            return true;
        }

        /** The greatest set as bits; the DEALS are none then. */
        int takeGreatest(int day) {
            for (int i = 0; i < count; i++) {
                Span owned = players[i].owning(day);
                sellers[i] = owned == null ? null : owned.club;
            }
            int best = 0;
            int bestFees = 0;
            for (int set = 1; set < 1 << count; set++) {
                int more = Integer.bitCount(set) - Integer.bitCount(best);
                int setFees = feesOf(set);
                if ((more > 0 || (more == 0 && setFees < bestFees)) && canHappen(set)) {
                    best = set;
                    bestFees = setFees;
                }
            }
            count = 0;
            return best;
        }

        private int feesOf(int set) {
            int sum = 0;
            for (int i = 0; i < count; i++) {
                sum += (set >> i & 1) * fees[i];
            }
            return sum;
        }

        private boolean canHappen(int set) {
            for (int i = 0; i < count; i++) {
                if ((set >> i & 1) != 0 && !fits(set, i)) {
                    return false;
                }
            }
            return true;
        }

        /** Whether one DEAL can happen along with the set: another DEAL that is not told is in no set. */
        private boolean fits(int set, int i) {
            if (sellers[i] == null || (others[i] >= 0 && (set >> others[i] & 1) == 0)) {
                return false;
            }
            int left = buyers[i].coins;
            for (int j = 0; j < count; j++) {
                if ((set >> j & 1) == 0) {
                    continue;
                }
                if (j != i && players[j] == players[i]) {
                    return false;
                }
                left += sellers[j] == buyers[i] ? fees[j] : 0;
                left -= buyers[j] == buyers[i] ? fees[j] : 0;
            }
            return left >= 0;
        }
    }

    /** Swaps in rings. A WISH that takes no part is one that gets its own PLAYER. */
    private static final class Rings {
        final int[] wants = new int[8];
        int count;
        /** Whose PLAYER each WISH got by the latest swaps. */
        final int[] gotten = new int[8];
        int swapped;
        /** With these PLAYERS given to the first WISHES: how many of the next ones can take part at most; -1: it can't be. */
        private final int[] most = new int[256];

        boolean add(int wanted) {
            if (count >= wants.length) {
                return false;
            }
            wants[count] = wanted;
            count++;
            return true;
        }

        /** How many take part; the WISHES are none then. */
        int takeMost() {
            int all = (1 << count) - 1;
            most[all] = 0;
            for (int given = all - 1; given >= 0; given--) {
                int wish = Integer.bitCount(given);
                most[given] = -1;
                for (int from = 0; from < count; from++) {
                    most[given] = Math.max(most[given], mostWith(given, wish, from));
                }
            }
            int given = 0;
            for (int wish = 0; wish < count; wish++) {
                gotten[wish] = firstOf(given, wish);
                given |= 1 << gotten[wish];
            }
            swapped = count;
            count = 0;
            return most[0];
        }

        /** How many of this WISH and the next ones can take part if it gets that PLAYER; -1: it can't be. */
        private int mostWith(int given, int wish, int from) {
            boolean isWanted = from == wish || (wants[wish] >> from & 1) != 0;
            if ((given >> from & 1) != 0 || !isWanted) {
                return -1;
            }
            int next = most[given | 1 << from];
            return next < 0 || from == wish ? next : next + 1;
        }

        private int firstOf(int given, int wish) {
            for (int from = 0; from < count; from++) {
                if (from != wish && mostWith(given, wish, from) >= 0 && mostWith(given, wish, from) == most[given]) {
                    return from;
                }
            }
            return wish;
        }
    }

    /** Candidates, and the best set of them under a purse. */
    private static final class Buys {
        final int[] prices = new int[10];
        final int[] worths = new int[10];
        final int[] grown = new int[10];
        final int[] places = new int[10];
        int count;

        boolean add(int what, int worth) {
            if (count >= prices.length) {
                return false;
            }
            prices[count] = what / 100;
            grown[count] = what / 10 % 10;
            places[count] = what % 10;
            worths[count] = worth;
            count++;
            return true;
        }

        /** The best set as bits, or NOT; the candidates are none then. */
        int takeBest(int purse, int most, int least) {
            int best = NOT;
            int bestWorth = -1;
            int bestPrice = 0;
            for (int set = 0; set < 1 << count; set++) {
                int price = sumOf(set, prices);
                int worth = sumOf(set, worths);
                boolean isBetter = worth > bestWorth || (worth == bestWorth && price < bestPrice);
                boolean fits = price <= purse && Integer.bitCount(set) <= most / 10 && sumOf(set, grown) >= most % 10;
                if (isBetter && fits && fillsPlaces(set, least)) {
                    best = set;
                    bestWorth = worth;
                    bestPrice = price;
                }
            }
            count = 0;
            return best;
        }

        private int sumOf(int set, int[] of) {
            int sum = 0;
            for (int i = 0; i < count; i++) {
                sum += (set >> i & 1) * of[i];
            }
            return sum;
        }

        private boolean fillsPlaces(int set, int least) {
            int digits = least;
            for (int place = 3; place >= 0; place--) {
                int lacking = digits % 10;
                digits /= 10;
                for (int i = 0; i < count; i++) {
                    lacking -= (set >> i & 1) != 0 && places[i] == place ? 1 : 0;
                }
                if (lacking > 0) {
                    return false;
                }
            }
            return true;
        }
    }

    /** Claims on a FAILED CLUB. */
    private static final class Claims {
        final int[] ranks = new int[12];
        final int[] coins = new int[12];
        int count;
        /** What each claim got by the latest parting. */
        final int[] paid = new int[12];
        int paidCount;
        private final int[] weights = new int[12];

        boolean add(int rank, int sum) {
            if (count >= ranks.length) {
                return false;
            }
            ranks[count] = rank;
            coins[count] = sum;
            count++;
            return true;
        }

        /** What is paid in all; the claims are none then. A rank paid whole is one parted by its own sum. */
        int pay(int assets) {
            int left = assets;
            for (int i = 0; i < count; i++) {
                paid[i] = 0;
            }
            for (int rank = 0; rank <= 3; rank++) {
                int owed = 0;
                for (int i = 0; i < count; i++) {
                    weights[i] = ranks[i] == rank ? coins[i] : 0;
                    owed += weights[i];
                }
                int parted = Math.min(left, owed);
                addParts(parted, weights, count, paid);
                left -= parted;
            }
            paidCount = count;
            count = 0;
            return assets - left;
        }
    }

    /** ACTS of BODIES, and THE TRACE of the bodies that ran. */
    private static final class Acts {
        static final int PLAYS = 0, PAYS = 1, SIGNS = 2, TELLS = 3, DEEPEST = 40;
        /** The body that each KIND has of each ACT, by 4 times KIND, and ACT; 0: none of its own. BODY has those of PLAYS and TELLS. */
        static final int[] OWN_BODY = {
            1, 10, 11, 2,
            20, 0, 0, 0,
            0, 30, 0, 31,
            40, 0, 41, 0,
            0, 50, 0, 0,
            0, 61, 60, 0,
            0, 0, 0, 70,
            0, 80, 0, 0};
        final int[] begun = new int[24];
        /** How many bodies ran, kept or not. */
        int ran;

        /** An ACT with the body of this KIND, or of the next KIND above that has one. */
        private int perform(Body by, int kind, int act, int x, int depth) {
            int owner = kind;
            while (owner > BODY && OWN_BODY[4 * owner + act] == 0) {
                owner = ABOVE[owner];
            }
            if (owner < BODY || depth >= DEEPEST) {
                return 0;
            }
            int number = OWN_BODY[4 * owner + act];
            if (ran < begun.length) {
                begun[ran] = number;
            }
            ran++;
            return run(by, number, ABOVE[owner], x, depth + 1);
        }

        /** A body by its number; above is the KIND from which super goes on. */
        private int run(Body by, int number, int above, int x, int depth) {
            int own = by.kind;
            switch (number) {
                case 1: return x - by.number;
                case 2: return perform(by, own, SIGNS, perform(by, own, PAYS, x, depth), depth);
                case 10: return perform(by, own, PLAYS, x, depth) + 4;
                case 11: return x ^ by.number;
                case 20: return perform(by, above, PLAYS, x, depth) * 2;
                case 30: return perform(by, above, PAYS, x, depth) - by.worth;
                case 31: return perform(by, BODY, TELLS, x, depth) + 1;
                case 40: return perform(by, above, PLAYS, x + 1, depth);
                case 41: return perform(by, above, SIGNS, x, depth) + perform(by, own, PLAYS, 0, depth);
                case 50: return perform(by, above, PAYS, x, depth) * 3;
                case 60: return -perform(by, above, SIGNS, x, depth);
                case 61: return perform(by, above, PAYS, x, depth) ^ by.league;
                case 70: return perform(by, above, TELLS, x, depth) - perform(by, own, PLAYS, 1, depth);
                case 80: return perform(by, above, PAYS, x, depth) + perform(by, above, SIGNS, x, depth);
                default: return 0;
            }
        }
    }

    /** A SHELF: nothing, a BODY, or a ROW, whose elements are all kept as longs. */
    private static final class Shelf {
        static final int EMPTY = 0, OF_BODY = 1, ROW = 2;
        static final int BYTES = 0, SHORTS = 1, INTS = 2, BOOLEANS = 4, MOST_ELEMENTS = 60;
        int state;
        Body held;
        int sort;
        int length;
        final long[] elements = new long[MOST_ELEMENTS];

        void hold(Body what) {
            state = what == null ? EMPTY : OF_BODY;
            held = what;
        }

        void holdRow(int newSort, int n) {
            state = ROW;
            held = null;
            sort = newSort;
            length = n;
            for (int i = 0; i < elements.length; i++) {
                elements[i] = 0;
            }
        }

        boolean isRowOf(int wanted) {
            return state == ROW && sort == wanted;
        }

        /** Whether n elements from i on are there. */
        boolean has(int i, int n) {
            return state == ROW && i >= 0 && n >= 0 && i <= length && n <= length - i;
        }

        /** What a ROW of this sort keeps of a value. */
        long fitted(long v) {
            switch (sort) {
                case BYTES: return (byte) v;
                case SHORTS: return (short) v;
                case INTS: return (int) v;
                case BOOLEANS: return v != 0 ? 1 : 0;
                default: return v;
            }
        }
    }
}
