import java.util.ArrayList;
import java.util.Arrays;
import java.util.Collections;
import java.util.Comparator;
import java.util.List;
import java.util.Map;
import java.util.TreeMap;

/** The same face, written from DOC.md once more in the plainest way: day by day, set by set, order by order. */
final class Model {
    static final int BAD = -1, NOT = -2, FULL = -3, VOID = -2000000000;
    private static final int NEVER = Integer.MAX_VALUE;

    /** A BODY with all that any KIND has. */
    static final class Being {
        int number;
        int kind;
        int league;
        int coins;
        int born;
        int worth;
        int agent = -1;
        boolean lacks;
        final int[] income = new int[10];
        final List<Lain> spans = new ArrayList<>();
        final Map<Integer, Integer> matches = new TreeMap<>();
    }

    /** A SPAN: p a PAST one, o an OWN one, l a LOAN. */
    static final class Lain {
        char sort;
        int club;
        int from;
        int to;
        int wage;
        int undone = NEVER;
        Deed by;

        boolean isSomeOn(int day) {
            return from <= day && day < undone;
        }
    }

    /** A MOVE. */
    static final class Deed {
        int player;
        int seller;
        int buyer;
        int fee;
        boolean loan;
        boolean undone;
        int option;
        int spread;
        int kept;
        int bonus;
        int needed;
        int told;
        int keptPaid;
        int keptTo = -1;
        int sharesPaid;
        Map<Integer, Integer> shares = new TreeMap<>();
        int agentPaid;
        int bonusPaid;
        Lain span;
    }

    /** A RULE. */
    static final class Law {
        int what;
        int made;
        int from;
        String text;
    }

    int day;
    int minute;
    final List<List<int[]>> windows = List.of(new ArrayList<>(), new ArrayList<>(), new ArrayList<>(), new ArrayList<>());
    final int[] papers = {1439, 1439, 1439, 1439};
    final List<Being> bodies = new ArrayList<>();
    int spans;
    final List<Deed> deeds = new ArrayList<>();
    final int[] terms = {0, 0, 0, 1, 0, 0, 1, 0, 0};
    final StringBuilder tape = new StringBuilder();
    final List<Law> laws = new ArrayList<>();
    final List<int[]> deals = new ArrayList<>();
    final List<Integer> wishes = new ArrayList<>();
    private int[] gotten = {};
    final List<int[]> candidates = new ArrayList<>();
    final List<int[]> claims = new ArrayList<>();
    private int[] parts = {};
    private List<Integer> ran = new ArrayList<>();
    /** A SHELF holds null, a Being or a long[] whose first element is its sort. */
    final Object[] shelves = new Object[6];

    private static boolean in(int v, int least, int most) {
        return least <= v && v <= most;
    }

    private boolean isClub(int number) {
        return in(number, 0, bodies.size() - 1) && (bodies.get(number).kind == 5 || bodies.get(number).kind == 7);
    }

    private boolean isPlayer(int number) {
        return in(number, 0, bodies.size() - 1) && in(bodies.get(number).kind, 2, 4);
    }

    private boolean isMove(int number) {
        return in(number, 0, deeds.size() - 1);
    }

    // ---- time, leagues

    int days(int n) {
        if (!in(n, 1, 300) || day + n > 2999) {
            return BAD;
        }
        day += n;
        minute = 0;
        return day;
    }

    int minute(int v) {
        if (v < minute || v > 1439) {
            return BAD;
        }
        int was = minute;
        minute = v;
        return was;
    }

    int window(int league, int from, int to) {
        if (!in(league, 0, 3) || !in(from, 0, 2999) || !in(to, 0, 2999) || from > to) {
            return BAD;
        }
        if (windows.get(league).size() == 6) {
            return FULL;
        }
        windows.get(league).add(new int[] {from, to});
        return windows.get(league).size();
    }

    int open(int league, int on) {
        if (!in(league, 0, 3) || !in(on, 0, 2999)) {
            return BAD;
        }
        return windows.get(league).stream().anyMatch(w -> w[0] <= on && on <= w[1]) ? 1 : 0;
    }

    int papers(int league, int v) {
        if (!in(league, 0, 3) || !in(v, 0, 1439)) {
            return BAD;
        }
        int was = papers[league];
        papers[league] = v;
        return was;
    }

    // ---- bodies

    private Being come(int kind) {
        Being b = new Being();
        b.kind = kind;
        b.number = bodies.size();
        bodies.add(b);
        return b;
    }

    int body(int kind) {
        if (kind != 0 && kind != 1 && kind != 6) {
            return BAD;
        }
        return bodies.size() == 150 ? FULL : come(kind).number;
    }

    int club(int kind, int league, int coins) {
        if (kind != 5 && kind != 7 || !in(league, 0, 3) || !in(coins, 0, 9999999)) {
            return BAD;
        }
        if (bodies.size() == 150) {
            return FULL;
        }
        Being b = come(kind);
        b.league = league;
        b.coins = coins;
        return b.number;
    }

    int player(int kind, int born, int worth, int agent) {
        if (!in(kind, 2, 4) || !in(born, -9000, 0) || !in(worth, 0, 99999)) {
            return BAD;
        }
        if (agent != -1 && (!in(agent, 0, bodies.size() - 1) || bodies.get(agent).kind != 6)) {
            return BAD;
        }
        if (bodies.size() == 150) {
            return FULL;
        }
        Being b = come(kind);
        b.born = born;
        b.worth = worth;
        b.agent = agent;
        return b.number;
    }

    int income(int club, int year, int v) {
        if (!isClub(club) || !in(year, 0, 9) || !in(v, 0, 9999999)) {
            return BAD;
        }
        int was = bodies.get(club).income[year];
        bodies.get(club).income[year] = v;
        return was;
    }

    int ofBody(int body, int what) {
        if (!in(body, 0, bodies.size() - 1)) {
            return VOID;
        }
        Being b = bodies.get(body);
        if (what == 0) {
            return b.kind;
        }
        if (isClub(body) && in(what, 1, 2)) {
            return what == 1 ? b.league : b.coins;
        }
        if (!isPlayer(body) || !in(what, 1, 9)) {
            return VOID;
        }
        Lain owned = ownSpan(b, day);
        int[] all = {0, age(b, day), b.worth, b.agent, holder(b, day), owner(b, day), b.spans.size(),
            owned == null ? -1 : owned.to, owned == null ? 0 : owned.wage, b.lacks ? 1 : 0};
        return all[what];
    }

    private static int age(Being b, int on) {
        return (on - b.born) / 300;
    }

    // ---- spans

    private static Lain lastOwn(Being b, int on) {
        Lain last = null;
        for (Lain s : b.spans) {
            last = s.sort == 'o' && s.isSomeOn(on) ? s : last;
        }
        return last;
    }

    private static Lain ownSpan(Being b, int on) {
        Lain last = lastOwn(b, on);
        return last != null && last.to >= on ? last : null;
    }

    private static Lain holdSpan(Being b, int on) {
        Lain last = lastOwn(b, on);
        for (int i = b.spans.size() - 1; i >= 0; i--) {
            Lain s = b.spans.get(i);
            if (s.isSomeOn(on) && on <= s.to && (s.sort != 'o' || s == last)) {
                return s;
            }
        }
        return null;
    }

    private static int owner(Being b, int on) {
        Lain s = ownSpan(b, on);
        return s == null ? -1 : s.club;
    }

    private static int holder(Being b, int on) {
        Lain s = holdSpan(b, on);
        return s == null ? -1 : s.club;
    }

    private Lain lay(Being b, char sort, int club, int from, int to) {
        Lain s = new Lain();
        s.sort = sort;
        s.club = club;
        s.from = from;
        s.to = to;
        b.spans.add(s);
        spans++;
        return s;
    }

    int past(int player, int club, int from, int to) {
        if (!isPlayer(player) || !isClub(club) || !in(from, -9999, 0) || !in(to, -9999, 0) || from > to) {
            return BAD;
        }
        if (spans == 600) {
            return FULL;
        }
        lay(bodies.get(player), 'p', club, from, to);
        return bodies.get(player).spans.size();
    }

    int spans(int player, int shelf, int i, int n) {
        if (!isPlayer(player) || !in(shelf, 0, 5) || !in(n, 1, 20)) {
            return BAD;
        }
        Object on = shelves[shelf];
        if (on instanceof Being || on instanceof long[] r && r[0] != 1) {
            return -12;
        }
        Being b = bodies.get(player);
        for (int came = 0; came < n; came++) {
            if (spans == 600) {
                return came;
            }
            long at = 1L + i + 3L * came;
            long[] r = on instanceof long[] row ? row : new long[1];
            if (i < 0 || at + 3 > r.length || past(player, (int) r[(int) at], (int) r[(int) at + 1], (int) r[(int) at + 2]) == BAD) {
                b.lacks = true;
                return came;
            }
        }
        b.lacks = false;
        return n;
    }

    int sign(int player, int club, int till, int wage) {
        if (!isPlayer(player) || !isClub(club) || !in(till, day, 2999) || !in(wage, 0, 99999)) {
            return BAD;
        }
        if (owner(bodies.get(player), day) >= 0) {
            return NOT;
        }
        if (spans == 600) {
            return FULL;
        }
        lay(bodies.get(player), 'o', club, day, till).wage = wage;
        return 1;
    }

    int at(int player, int on, int what) {
        if (!isPlayer(player) || !in(on, -9999, 2999) || !in(what, 0, 1)) {
            return BAD;
        }
        int club = what == 0 ? holder(bodies.get(player), on) : owner(bodies.get(player), on);
        return club < 0 ? NOT : club;
    }

    private Map<Integer, Integer> teaching(Being b) {
        Map<Integer, Integer> days = new TreeMap<>();
        for (int on = b.born; on <= day; on++) {
            int by = age(b, on) >= 12 && age(b, on) <= 22 ? holder(b, on) : -1;
            if (by >= 0) {
                days.merge(by, 1, Integer::sum);
            }
        }
        return days;
    }

    int taught(int player, int club) {
        return isPlayer(player) && isClub(club) ? teaching(bodies.get(player)).getOrDefault(club, 0) : BAD;
    }

    // ---- moves

    int term(int what, int v) {
        int[] least = {0, 0, 0, 1, 0, 0, 1, 0, 0};
        int[] most = {999999, 2999, 99999, 5, 50, 999999, 999, 2999, 999999};
        if (!in(what, 0, 8) || !in(v, least[what], most[what])) {
            return BAD;
        }
        int was = terms[what];
        terms[what] = v;
        return was;
    }

    int why(int player, int club, int loan) {
        if (!isPlayer(player) || !isClub(club) || !in(loan, 0, 1)) {
            return BAD;
        }
        Being b = bodies.get(player);
        Being to = bodies.get(club);
        if (owner(b, day) < 0) {
            return NOT;
        }
        Lain counts = holdSpan(b, day);
        if (owner(b, day) == club || counts.sort == 'l' && (loan == 1 || counts.club != club)) {
            return 1;
        }
        int among = whyAmong2To5(b, to, terms[0]);
        return among != 0 ? among : broken(lawToday(to, 1), to, null, b) >= 0 ? 6 : 0;
    }

    private int whyAmong2To5(Being b, Being to, int fee) {
        if (open(to.league, day) == 0) {
            return 2;
        }
        if (minute > papers[to.league]) {
            return 3;
        }
        if (broken(lawToday(to, 0), to, b, null) >= 0) {
            return 4;
        }
        return to.coins < fee ? 5 : 0;
    }

    int sell(int player, int club) {
        return move(player, club, 0, terms[1]);
    }

    int lend(int player, int club) {
        return move(player, club, 1, terms[7]);
    }

    private int move(int player, int club, int loan, int till) {
        int why = why(player, club, loan);
        if (why == BAD || till < day) {
            return BAD;
        }
        if (why != 0) {
            return why == NOT ? NOT : -20 - why;
        }
        if (deeds.size() == 200 || spans == 600) {
            return FULL;
        }
        return loan == 0 ? sale(player, club, terms[0], terms[4], terms[5]) : loan(player, club);
    }

    private Deed deed(int player, int club, int fee) {
        Deed d = new Deed();
        d.player = player;
        d.seller = owner(bodies.get(player), day);
        d.buyer = club;
        d.fee = fee;
        d.spread = terms[3];
        d.needed = terms[6];
        deeds.add(d);
        give(club, -fee);
        give(d.seller, fee);
        return d;
    }

    private void give(int club, int coins) {
        bodies.get(club).coins += coins;
    }

    private static int up(int hundredths, int of) {
        return (int) Math.ceil(hundredths * (double) of / 100);
    }

    private int sale(int player, int club, int fee, int kept, int bonus) {
        Being b = bodies.get(player);
        Deed cameBy = ownSpan(b, day).by;
        Deed d = deed(player, club, fee);
        d.kept = kept;
        d.bonus = bonus;
        if (cameBy != null && fee > cameBy.fee) {
            d.keptPaid = up(cameBy.kept, fee - cameBy.fee);
            d.keptTo = cameBy.seller;
            give(d.seller, -d.keptPaid);
            give(d.keptTo, d.keptPaid);
        }
        Map<Integer, Integer> days = teaching(b);
        days.remove(d.seller);
        if (!days.isEmpty()) {
            d.sharesPaid = up(5, fee);
            List<Integer> to = new ArrayList<>(days.keySet());
            int[] each = parted(d.sharesPaid, new ArrayList<>(days.values()));
            for (int i = 0; i < each.length; i++) {
                d.shares.put(to.get(i), each[i]);
                give(to.get(i), each[i]);
            }
            give(d.seller, -d.sharesPaid);
        }
        if (b.agent >= 0) {
            d.agentPaid = up(3, fee);
            give(club, -d.agentPaid);
        }
        d.span = lay(b, 'o', club, day, terms[1]);
        d.span.wage = terms[2];
        d.span.by = d;
        return deeds.size() - 1;
    }

    private int loan(int player, int club) {
        Deed d = deed(player, club, terms[0]);
        d.loan = true;
        d.option = terms[8];
        d.span = lay(bodies.get(player), 'l', club, day, terms[7]);
        return deeds.size() - 1;
    }

    /** Whole parts, and the rest one by one to those with the greatest rests, of like ones the earlier. */
    private static int[] parted(int whole, List<Integer> weights) {
        long sum = weights.stream().mapToLong(w -> w).sum();
        int[] parts = new int[weights.size()];
        List<Integer> order = new ArrayList<>();
        long left = whole;
        for (int i = 0; i < parts.length; i++) {
            parts[i] = (int) ((long) whole * weights.get(i) / sum);
            left -= parts[i];
            order.add(i);
        }
        order.sort(Comparator.comparing((Integer i) -> -((long) whole * weights.get(i) % sum)));
        for (int k = 0; k < left; k++) {
            parts[order.get(k)]++;
        }
        return parts;
    }

    int option(int move) {
        if (!isMove(move) || terms[1] < day) {
            return BAD;
        }
        Deed d = deeds.get(move);
        Being b = bodies.get(d.player);
        boolean isOver = d.loan && d.span.to + 1 < day;
        if (!d.loan || d.option == 0 || isOver || d.undone || owner(b, day) != d.seller) {
            return NOT;
        }
        int why = whyAmong2To5(b, bodies.get(d.buyer), d.option);
        if (why != 0) {
            return -20 - why;
        }
        return deeds.size() == 200 || spans == 600 ? FULL : sale(d.player, d.buyer, d.option, 0, 0);
    }

    int ofMove(int move, int what) {
        if (!isMove(move) || !in(what, 0, 10)) {
            return VOID;
        }
        Deed d = deeds.get(move);
        int[] all = {d.player, d.seller, d.buyer, d.fee, d.span.from, d.loan ? 1 : 0, d.undone ? 1 : 0,
            d.keptPaid, d.sharesPaid, d.agentPaid, d.bonusPaid};
        return all[what];
    }

    int share(int move, int club) {
        return isMove(move) && isClub(club) ? deeds.get(move).shares.getOrDefault(club, 0) : BAD;
    }

    int play(int player, int n) {
        if (!isPlayer(player) || !in(n, 1, 60)) {
            return BAD;
        }
        int by = holder(bodies.get(player), day);
        if (by < 0) {
            return NOT;
        }
        for (Deed d : deeds) {
            if (d.player == player && d.buyer == by && !d.loan && !d.undone) {
                boolean wereEnough = d.told >= d.needed;
                d.told += n;
                if (!wereEnough && d.told >= d.needed) {
                    d.bonusPaid = d.bonus;
                    give(d.buyer, -d.bonus);
                    give(d.seller, d.bonus);
                }
            }
        }
        return bodies.get(player).matches.merge(by, n, Integer::sum);
    }

    int undo(int move) {
        if (!isMove(move)) {
            return BAD;
        }
        Deed d = deeds.get(move);
        if (d.undone) {
            return NOT;
        }
        for (int later = move + 1; later < deeds.size(); later++) {
            if (deeds.get(later).player == d.player && !deeds.get(later).undone) {
                return -100 - later;
            }
        }
        d.undone = true;
        d.span.undone = day;
        give(d.buyer, d.fee);
        give(d.seller, -d.fee);
        if (d.keptTo >= 0) {
            give(d.keptTo, -d.keptPaid);
            give(d.seller, d.keptPaid);
        }
        d.shares.forEach((club, coins) -> give(club, -coins));
        give(d.seller, d.sharesPaid);
        return 1;
    }

    // ---- squads, caps, rules

    private List<Being> held(Being club, Being joining) {
        List<Being> all = new ArrayList<>();
        for (Being b : bodies) {
            if (isPlayer(b.number) && (holder(b, day) == club.number || b == joining)) {
                all.add(b);
            }
        }
        return all;
    }

    private boolean isHomeGrown(Being b, int league) {
        int days = 0;
        for (Map.Entry<Integer, Integer> by : teaching(b).entrySet()) {
            days += bodies.get(by.getKey()).league == league ? by.getValue() : 0;
        }
        return days >= 900;
    }

    private int wages(Being club) {
        int sum = 0;
        for (Being b : bodies) {
            sum += isPlayer(b.number) && owner(b, day) == club.number ? ownSpan(b, day).wage : 0;
        }
        return sum;
    }

    private int cap(Being club, int year) {
        int sum = wages(club);
        for (Deed d : deeds) {
            if (d.buyer == club.number && !d.loan && !d.undone) {
                int first = d.span.from / 300;
                int each = d.fee / d.spread;
                sum += year == first ? d.fee - each * (d.spread - 1) : year > first && year < first + d.spread ? each : 0;
            }
        }
        return sum;
    }

    private int threeYears(Being club, boolean caps) {
        int sum = 0;
        for (int year = day / 300 - 2; year <= day / 300; year++) {
            sum += year < 0 ? 0 : caps ? cap(club, year) : club.income[year];
        }
        return sum;
    }

    int squad(int club, int what) {
        if (!isClub(club) || !in(what, 0, 6)) {
            return BAD;
        }
        return figure("nhywcti".charAt(what), bodies.get(club), null, null);
    }

    private int figure(char name, Being club, Being who, Being joining) {
        switch (name) {
            case 'a': return who == null ? 0 : age(who, day);
            case 'k': return who == null ? 0 : who.kind;
            case 'h': return (int) held(club, joining).stream().filter(b -> isHomeGrown(b, club.league)).count();
            case 'n': return held(club, joining).size();
            case 'y': return (int) held(club, joining).stream().filter(b -> b.kind == 4).count();
            case 'w': return wages(club);
            case 'c': return cap(club, day / 300);
            case 't': return threeYears(club, true);
            case 'i': return threeYears(club, false);
            case 'l': return club.league;
            case 'd': return day / 300;
            default: return club.coins;
        }
    }

    int feed(int n, int v) {
        if (!in(n, 1, 4)) {
            return BAD;
        }
        if (tape.length() + n > 160) {
            return FULL;
        }
        for (int i = 0; i < n; i++) {
            tape.append((char) (v >> 8 * i & 255));
        }
        return tape.length();
    }

    private static boolean isWhat(int what) {
        return in(what, 0, 39) && in(what % 10, 0, 2);
    }

    int rule(int what, int from) {
        if (!isWhat(what) || !in(from, 0, 2999)) {
            return BAD;
        }
        if (laws.size() == 16) {
            return FULL;
        }
        String text = tape.toString();
        tape.setLength(0);
        int fault = Texts.fault(text);
        if (fault >= 0) {
            return -100 - fault;
        }
        Law law = new Law();
        law.what = what;
        law.made = day;
        law.from = from;
        law.text = text;
        laws.add(law);
        return laws.size() - 1;
    }

    int inForce(int what, int d, int k) {
        if (!isWhat(what) || !in(d, 0, 2999) || !in(k, 0, 2999)) {
            return BAD;
        }
        int last = NOT;
        for (Law law : laws) {
            last = law.what == what && law.made <= k && law.from <= d ? laws.indexOf(law) : last;
        }
        return last;
    }

    private Law lawToday(Being club, int use) {
        int number = inForce(10 * club.league + use, day, day);
        return number < 0 ? null : laws.get(number);
    }

    private int broken(Law law, Being club, Being who, Being joining) {
        return law == null ? -1 : Texts.broken(law.text, name -> figure(name, club, who, joining));
    }

    int holds(int use, int club, int player) {
        if (!in(use, 0, 2) || !isClub(club) || (use == 0 ? !isPlayer(player) : player != -1)) {
            return BAD;
        }
        Being to = bodies.get(club);
        int line = broken(lawToday(to, use), to, use == 0 ? bodies.get(player) : null, null);
        return line < 0 ? NOT : line;
    }

    int tryCap(int rule, int league) {
        if (!in(rule, 0, laws.size() - 1) || !in(league, 0, 3) || laws.get(rule).what % 10 != 2) {
            return BAD;
        }
        return (int) bodies.stream().filter(b -> isClub(b.number) && b.league == league && broken(laws.get(rule), b, null, null) >= 0).count();
    }

    // ---- deals, rings, buys, claims

    int deal(int player, int club, int fee, int other) {
        if (!isPlayer(player) || !isClub(club) || !in(fee, 0, 999999) || !in(other, -1, 5) || other == deals.size()) {
            return BAD;
        }
        int owner = owner(bodies.get(player), day);
        if (owner < 0 || owner == club) {
            return BAD;
        }
        if (deals.size() == 6) {
            return FULL;
        }
        deals.add(new int[] {player, club, fee, other});
        return deals.size();
    }

    int chain() {
        if (deals.isEmpty()) {
            return BAD;
        }
        List<Integer> sets = new ArrayList<>();
        for (int set = 0; set < 1 << deals.size(); set++) {
            if (canHappen(set)) {
                sets.add(set);
            }
        }
        Comparator<Integer> most = Comparator.comparing(set -> -Integer.bitCount(set));
        int best = Collections.min(sets, most.thenComparing(this::fees).thenComparing(set -> set));
        deals.clear();
        return best;
    }

    private int fees(int set) {
        int sum = 0;
        for (int i = 0; i < deals.size(); i++) {
            sum += (set >> i & 1) * deals.get(i)[2];
        }
        return sum;
    }

    private boolean canHappen(int set) {
        List<Integer> players = new ArrayList<>();
        Map<Integer, Integer> coins = new TreeMap<>();
        List<Integer> buyers = new ArrayList<>();
        for (int i = 0; i < deals.size(); i++) {
            if ((set >> i & 1) == 1) {
                int[] d = deals.get(i);
                int owner = owner(bodies.get(d[0]), day);
                if (owner < 0 || players.contains(d[0]) || d[3] >= 0 && (set >> d[3] & 1) == 0) {
                    return false;
                }
                players.add(d[0]);
                buyers.add(d[1]);
                coins.merge(owner, d[2], Integer::sum);
                coins.merge(d[1], -d[2], Integer::sum);
            }
        }
        return buyers.stream().allMatch(b -> bodies.get(b).coins + coins.get(b) >= 0);
    }

    int wish(int wants) {
        if (!in(wants, 0, 255) || (wants & 1 << wishes.size()) != 0) {
            return BAD;
        }
        if (wishes.size() == 8) {
            return FULL;
        }
        wishes.add(wants);
        return wishes.size();
    }

    int rings() {
        if (wishes.isEmpty()) {
            return BAD;
        }
        int[] best = new int[wishes.size()];
        Arrays.fill(best, -1);
        gotten = tried(0, new int[wishes.size()], best);
        wishes.clear();
        return takers(gotten);
    }

    private static int takers(int[] got) {
        int n = 0;
        for (int g : got) {
            n += g >= 0 ? 1 : 0;
        }
        return n;
    }

    /** All ways in the order in which the document has them (lesser first, none last): the first of the best stays. */
    private int[] tried(int i, int[] got, int[] best) {
        if (i == got.length) {
            return takers(got) > takers(best) && isFair(got) ? got.clone() : best;
        }
        int[] found = best;
        for (int from = 0; from <= got.length; from++) {
            boolean isNone = from == got.length;
            if (isNone || (wishes.get(i) >> from & 1) == 1) {
                got[i] = isNone ? -1 : from;
                found = tried(i + 1, got, found);
            }
        }
        return found;
    }

    private static boolean isFair(int[] got) {
        int[] given = new int[got.length];
        for (int g : got) {
            if (g >= 0) {
                given[g]++;
            }
        }
        for (int i = 0; i < got.length; i++) {
            if (given[i] != (got[i] >= 0 ? 1 : 0)) {
                return false;
            }
        }
        return true;
    }

    int gets(int i) {
        return !in(i, 0, gotten.length - 1) ? BAD : gotten[i] < 0 ? NOT : gotten[i];
    }

    int candidate(int what, int worth) {
        if (what < 0 || what / 100 > 9999 || what / 10 % 10 > 1 || what % 10 > 3 || !in(worth, 0, 99999)) {
            return BAD;
        }
        if (candidates.size() == 10) {
            return FULL;
        }
        candidates.add(new int[] {what / 100, what / 10 % 10, what % 10, worth});
        return candidates.size();
    }

    int buys(int purse, int most, int least) {
        if (!in(purse, 0, 9999999) || !in(most / 10, 0, 10) || most < 0 || !in(least, 0, 9999) || candidates.isEmpty()) {
            return BAD;
        }
        int[] atLeast = {least / 1000, least / 100 % 10, least / 10 % 10, least % 10};
        int best = NOT;
        int[] bestSums = {-1, 0};
        for (int set = 0; set < 1 << candidates.size(); set++) {
            int[] places = new int[4];
            int[] sums = new int[4];
            for (int i = 0; i < candidates.size(); i++) {
                if ((set >> i & 1) == 1) {
                    int[] c = candidates.get(i);
                    places[c[2]]++;
                    sums[0] += c[3];
                    sums[1] += c[0];
                    sums[2] += c[1];
                    sums[3]++;
                }
            }
            boolean fits = sums[1] <= purse && sums[3] <= most / 10 && sums[2] >= most % 10;
            for (int p = 0; p < 4; p++) {
                fits &= places[p] >= atLeast[p];
            }
            if (fits && (sums[0] > bestSums[0] || sums[0] == bestSums[0] && sums[1] < bestSums[1])) {
                best = set;
                bestSums = sums;
            }
        }
        candidates.clear();
        return best;
    }

    int claim(int rank, int coins) {
        if (!in(rank, 0, 3) || !in(coins, 1, 999999)) {
            return BAD;
        }
        if (claims.size() == 12) {
            return FULL;
        }
        claims.add(new int[] {rank, coins});
        return claims.size();
    }

    int part(int assets) {
        if (!in(assets, 0, 9999999) || claims.isEmpty()) {
            return BAD;
        }
        parts = new int[claims.size()];
        int left = assets;
        for (int rank = 0; rank < 4; rank++) {
            List<Integer> who = new ArrayList<>();
            List<Integer> coins = new ArrayList<>();
            int sum = 0;
            for (int i = 0; i < claims.size(); i++) {
                if (claims.get(i)[0] == rank) {
                    who.add(i);
                    coins.add(claims.get(i)[1]);
                    sum += claims.get(i)[1];
                }
            }
            int[] each = sum == 0 ? new int[0] : parted(left, coins);
            for (int k = 0; k < each.length; k++) {
                parts[who.get(k)] = sum <= left ? coins.get(k) : each[k];
            }
            left -= Math.min(left, sum);
        }
        claims.clear();
        return assets - left;
    }

    int got(int i) {
        return in(i, 0, parts.length - 1) ? parts[i] : BAD;
    }

    // ---- acts, shelves

    int act(int body, int act, int x) {
        ran = new ArrayList<>();
        if (!in(body, 0, bodies.size() - 1) || !in(act, 0, 3)) {
            return 0;
        }
        Being b = bodies.get(body);
        Kinds.Body of = Kinds.of(b.kind, b.number, isClub(body) ? b.league : b.worth);
        int answer = of.act(act, x);
        ran = of.ran;
        return answer;
    }

    int trace(int i) {
        return in(i, 0, Math.min(24, ran.size()) - 1) ? ran.get(i) : BAD;
    }

    int keep(int shelf, int body) {
        if (!in(shelf, 0, 5) || !in(body, -1, bodies.size() - 1)) {
            return BAD;
        }
        shelves[shelf] = body < 0 ? null : bodies.get(body);
        return 1;
    }

    int row(int shelf, int sort, int n) {
        if (!in(shelf, 0, 5) || !in(sort, 0, 4) || n > 60) {
            return BAD;
        }
        if (n < 0) {
            return -14;
        }
        long[] row = new long[n + 1];
        row[0] = sort;
        shelves[shelf] = row;
        return 1;
    }

    private int refusal(int shelf, int i) {
        if (!in(shelf, 0, 5)) {
            return BAD;
        }
        Object on = shelves[shelf];
        return on == null ? -11 : !(on instanceof long[] row) ? -12 : !in(i, 0, row.length - 2) ? -13 : 1;
    }

    int put(int shelf, int i, long v) {
        int refusal = refusal(shelf, i);
        if (refusal == 1) {
            long[] row = (long[]) shelves[shelf];
            long[] kept = {(byte) v, (short) v, (int) v, v, v == 0 ? 0 : 1};
            row[i + 1] = kept[(int) row[0]];
        }
        return refusal;
    }

    long element(int shelf, int i) {
        return refusal(shelf, i) == 1 ? ((long[]) shelves[shelf])[i + 1] : Long.MIN_VALUE;
    }

    int shift(int shelf, int i, int other, int j, int n) {
        if (!in(shelf, 0, 5) || !in(other, 0, 5)) {
            return BAD;
        }
        if (shelves[shelf] == null || shelves[other] == null) {
            return -11;
        }
        if (!(shelves[shelf] instanceof long[] from) || !(shelves[other] instanceof long[] to) || from[0] != to[0]) {
            return -12;
        }
        if (i < 0 || j < 0 || n < 0 || (long) i + n > from.length - 1 || (long) j + n > to.length - 1) {
            return -13;
        }
        long[] before = from.clone();
        for (int k = 0; k < n; k++) {
            to[j + k + 1] = before[i + k + 1];
        }
        return n;
    }

    int taken(int shelf, int k) {
        if (!in(shelf, 0, 5) || !in(k, 0, 7)) {
            return BAD;
        }
        if (shelves[shelf] == null) {
            return -11;
        }
        boolean isUnder = shelves[shelf] instanceof Being b && Kinds.of(k, 0, 0).getClass().isInstance(Kinds.of(b.kind, 0, 0));
        return isUnder ? ((Being) shelves[shelf]).kind : -12;
    }

    int count(int what) {
        int clubs = 0;
        int players = 0;
        int free = 0;
        for (Being b : bodies) {
            clubs += isClub(b.number) ? 1 : 0;
            players += isPlayer(b.number) ? 1 : 0;
            free += isPlayer(b.number) && owner(b, day) < 0 ? 1 : 0;
        }
        int standing = (int) deeds.stream().filter(d -> !d.undone).count();
        int[] all = {bodies.size(), clubs, players, spans, standing, laws.size(), day, minute, tape.length(), free, ran.size()};
        return in(what, 0, 10) ? all[what] : BAD;
    }
}
