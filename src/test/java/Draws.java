import java.util.ArrayDeque;
import java.util.ArrayList;
import java.util.Deque;
import java.util.List;
import java.util.Random;

/** Draws calls that fit what a Model has, and now and then some that do not. Calls that belong together are drawn at once and made in turn. */
final class Draws {
    /** A call by its name. */
    record Call(String name, long... with) {
        @Override
        public String toString() {
            StringBuilder text = new StringBuilder(name).append('(');
            for (int i = 0; i < with.length; i++) {
                text.append(i == 0 ? "" : ", ").append(with[i]);
            }
            return text.append(')').toString();
        }
    }

    private static final String[] NAMES = ("days minute window open papers body club player income ofBody past spans sign at taught term why sell lend option"
        + " ofMove share play undo squad feed rule inForce holds tryCap deal chain wish rings gets candidate buys claim part got act trace keep row put"
        + " element shift taken count").split(" ");
    private static final String SIGNS = "akhnywctildm0123456789!()[]<>=+-*/%&|;x ";

    private final Random r;
    private final Model m;
    private final Deque<Call> next = new ArrayDeque<>();
    /** What this run has more of: names, each as often as it is to be drawn. */
    private final List<String> often = new ArrayList<>();
    private final int longest;
    private final int dearest;

    Draws(int seed, Model model) {
        r = new Random(seed);
        m = model;
        for (int i = 0; i < 6; i++) {
            String name = NAMES[r.nextInt(NAMES.length)];
            often.addAll(List.of(name, name, name, name));
        }
        often.addAll(List.of(NAMES));
        often.addAll(List.of("sell lend option undo play squad sell lend option undo play ofBody sell sell sell past term term sign days rule".split(" ")));
        longest = r.nextInt(4) == 0 ? 300 : 1 + r.nextInt(20);
        dearest = r.nextInt(3) == 0 ? 999999 : 3000;
        found();
    }

    /** A few leagues, clubs and players ahead of all else. */
    private void found() {
        for (int i = 0; i < 4; i++) {
            add("club", r.nextInt(3) == 0 ? 7 : 5, r.nextInt(2), r.nextInt(20000));
        }
        add("body", 6);
        for (int i = 0; i < 5; i++) {
            add("player", 2 + r.nextInt(3), -r.nextInt(7000), r.nextInt(200), r.nextInt(2) * 5 - 1);
        }
        add("window", 0, 0, 2999);
        add("window", 1, r.nextInt(3), 2900);
    }

    private void add(String name, long... with) {
        next.add(new Call(name, with));
    }

    Call next() {
        while (next.isEmpty()) {
            draw(often.get(r.nextInt(often.size())));
        }
        return next.remove();
    }

    private int some(int least, int most) {
        int odd = r.nextInt(100);
        if (odd < 3) {
            int[] wrong = {least - 1, most + 1, Integer.MIN_VALUE, Integer.MAX_VALUE, -1, 0, 1 << 30};
            return wrong[r.nextInt(wrong.length)];
        }
        if (odd < 9) {
            return odd % 2 == 0 ? least : most;
        }
        return most < least ? least : least + (int) ((most - (long) least + 1) * r.nextDouble());
    }

    /** A body whose KIND is one of these, if there is one. */
    private int one(String kinds) {
        int n = m.bodies.size();
        int first = some(0, n - 1);
        if (r.nextInt(40) == 0 || first < 0 || first >= n) {
            return first;
        }
        for (int i = 0; i < n; i++) {
            int at = (first + i) % n;
            if (kinds.indexOf('0' + m.bodies.get(at).kind) >= 0) {
                return at;
            }
        }
        return -1;
    }

    private int aClub() {
        return one("57");
    }

    private int aPlayer() {
        return one("234");
    }

    /** Mostly one who has an OWNER. */
    private int anOwned() {
        int player = aPlayer();
        for (int i = 0; i < 12 && isFree(player) && r.nextInt(30) > 0; i++) {
            player = aPlayer();
        }
        return player;
    }

    private boolean isFree(int player) {
        return m.ofBody(player, 5) == -1;
    }

    /** Mostly a CLUB that may buy TODAY, but not his OWNER. */
    private int aBuyer(int player) {
        int club = aClub();
        for (int i = 0; i < 12 && (m.ofBody(player, 5) == club || m.open(m.ofBody(club, 1), m.day) != 1) && r.nextInt(30) > 0; i++) {
            club = aClub();
        }
        return club;
    }

    private int aMove() {
        int n = m.deeds.size();
        return r.nextInt(3) == 0 ? some(Math.max(0, n - 3), n - 1) : some(0, n - 1);
    }

    /** Mostly a MOVE that stands, a LOAN or any. */
    private int standing(boolean loan) {
        int move = aMove();
        for (int i = 0; i < 12 && r.nextInt(30) > 0 && (m.ofMove(move, 6) != 0 || loan && m.ofMove(move, 5) != 1); i++) {
            move = aMove();
        }
        return move;
    }

    /** Most DAYS told are near TODAY. */
    private int aDay() {
        int how = r.nextInt(6);
        return how == 0 ? some(0, 2999) : some(m.day, Math.min(2999, m.day + (how == 1 ? 4 : 700)));
    }

    private int anyDay() {
        return r.nextBoolean() ? some(-9999, 2999) : r.nextBoolean() ? m.day + r.nextInt(5) - 2 : some(-3000, m.day);
    }

    private void draw(String name) {
        switch (name) {
            case "days" -> add(name, r.nextInt(60) == 0 ? some(1, 300) : some(1, longest));
            case "minute" -> add(name, r.nextInt(3) > 0 ? m.minute + r.nextInt(3) : some(m.minute, 1439));
            case "window" -> add(name, some(0, 3), aDay(), aDay());
            case "open" -> add(name, some(0, 3), aDay());
            case "papers" -> add(name, some(0, 3), r.nextInt(3) > 0 ? 1439 : m.minute + r.nextInt(5) - 2);
            case "body" -> add(name, some(0, 6));
            case "club" -> add(name, r.nextBoolean() ? 5 : some(5, 7), some(0, 3), some(0, r.nextInt(9) == 0 ? 9999999 : 20000));
            case "player" -> add(name, some(2, 4), r.nextBoolean() ? some(-9000, 0) : some(-6900, -2000), some(0, 99999), r.nextBoolean() ? -1 : one("6"));
            case "income" -> add(name, aClub(), r.nextInt(3) > 0 ? m.day / 300 : some(0, 9), some(0, r.nextBoolean() ? 3000 : 9999999));
            case "past" -> drawPast();
            case "spans" -> drawSpans();
            case "sign" -> add(name, aPlayer(), aClub(), r.nextInt(3) > 0 ? Math.min(2999, m.day + r.nextInt(900)) : aDay(), some(0, r.nextInt(4) == 0 ? 99999 : 900));
            case "at" -> add(name, aPlayer(), anyDay(), some(0, 1));
            case "term" -> drawTerm();
            case "why" -> add(name, aPlayer(), aClub(), some(0, 1));
            case "sell", "lend" -> drawMove(name);
            case "option" -> add(name, standing(true));
            case "undo" -> add(name, standing(false));
            case "ofMove" -> add(name, aMove(), some(0, 10));
            case "share" -> add(name, aMove(), aClub());
            case "play" -> add(name, aPlayer(), some(1, r.nextBoolean() ? 4 : 60));
            case "squad" -> add(name, aClub(), some(0, 6));
            default -> drawMore(name);
        }
    }

    private void drawMore(String name) {
        switch (name) {
            case "ofBody" -> add(name, one("01234567"), some(0, 9));
            case "taught" -> add(name, aPlayer(), aClub());
            case "feed" -> add(name, some(1, 4), r.nextInt());
            case "rule" -> drawRule();
            case "inForce" -> add(name, aWhat(), aDay(), aDay());
            case "holds" -> drawHolds();
            case "tryCap" -> add(name, some(0, m.laws.size() - 1), some(0, 3));
            case "deal" -> drawDeal();
            case "chain" -> drawChain();
            case "wish", "rings" -> drawRings();
            case "gets" -> add(name, some(0, 7));
            case "candidate", "buys" -> drawBuys();
            case "claim", "part" -> drawParts();
            case "got" -> add(name, some(0, 11));
            case "act" -> add(name, one("01234567"), some(0, 3), r.nextBoolean() ? r.nextInt() : r.nextInt(99));
            case "trace" -> add(name, some(0, 11));
            case "keep" -> add(name, some(0, 5), r.nextInt(3) == 0 ? -1 : one("01234567"));
            case "row" -> add(name, some(0, 5), some(0, 4), r.nextInt(20) == 0 ? -r.nextInt(9) : some(0, 60));
            case "put" -> add(name, some(0, 5), some(0, 9), r.nextBoolean() ? r.nextLong() : r.nextInt(3));
            case "element" -> add(name, some(0, 5), some(0, 9));
            case "shift" -> add(name, some(0, 5), some(0, 20), some(0, 5), some(0, 20), some(0, 20));
            case "taken" -> add(name, some(0, 5), some(0, 7));
            default -> add("count", some(0, 10));
        }
    }

    private void drawPast() {
        int from = r.nextBoolean() ? some(-9999, 0) : some(-3000, 0);
        add("past", aPlayer(), aClub(), from, r.nextBoolean() ? some(from, 0) : Math.min(0, from + r.nextInt(1500)));
    }

    private void drawSpans() {
        int shelf = some(0, 5);
        int n = 1 + r.nextInt(3);
        if (r.nextInt(4) == 0) {
            add("spans", aPlayer(), shelf, some(0, 30), some(1, 20));
            return;
        }
        int first = r.nextInt(3);
        add("row", shelf, r.nextInt(12) == 0 ? some(0, 4) : 1, first + 3 * n + r.nextInt(3) - r.nextInt(2));
        for (int k = 0; k < n; k++) {
            int from = some(-9999, 0);
            add("put", shelf, first + 3 * k, aClub());
            add("put", shelf, first + 3 * k + 1, from);
            add("put", shelf, first + 3 * k + 2, r.nextInt(8) == 0 ? some(-9999, 0) : Math.min(0, from + r.nextInt(3000)));
        }
        add("spans", aPlayer(), shelf, r.nextInt(8) == 0 ? some(-1, 60) : first, r.nextInt(5) == 0 ? some(1, 20) : n);
    }

    private void drawTerm() {
        int what = some(0, 8);
        int[] most = {dearest, 0, 900, 5, 50, 300, 20, 0, dearest};
        boolean isDay = what == 1 || what == 7;
        add("term", what, isDay ? aDay() : what >= 0 && what <= 8 && r.nextInt(30) > 0 ? some(r.nextInt(2), most[what]) : some(0, 1000000));
    }

    /** Mostly with a till that is not over, and by an OWNER. */
    private void drawMove(String name) {
        int till = name.equals("sell") ? 1 : 7;
        if (m.terms[till] < m.day && r.nextInt(8) > 0) {
            add("term", till, aDay());
        }
        int player = anOwned();
        if (isFree(player) && r.nextInt(8) > 0) {
            add("sign", player, aClub(), Math.min(2999, m.day + r.nextInt(900)), some(0, 900));
        }
        if (r.nextInt(4) == 0) {
            add("term", 0, some(0, dearest));
        }
        if (name.equals("lend") && r.nextBoolean()) {
            add("term", 8, some(0, dearest));
        }
        add(name, player, aBuyer(player));
        if (r.nextInt(3) == 0) {
            add("ofMove", m.deeds.size(), 7 + r.nextInt(3));
        }
    }

    private int aWhat() {
        return 10 * some(0, r.nextBoolean() ? 1 : 3) + some(0, 2);
    }

    private void drawRule() {
        StringBuilder text = new StringBuilder();
        for (int line = 1 + r.nextInt(2); line > 0; line--) {
            text.append(either(0)).append(line > 1 ? ";" : "");
        }
        if (r.nextInt(6) == 0) {
            text.setCharAt(r.nextInt(text.length()), SIGNS.charAt(r.nextInt(SIGNS.length())));
        }
        for (int i = 0; i < Math.min(text.length(), 100); i += 4) {
            int n = Math.min(4, text.length() - i);
            int v = 0;
            for (int k = 0; k < n; k++) {
                v |= text.charAt(i + k) << 8 * k;
            }
            add("feed", n, v);
        }
        add("rule", aWhat(), r.nextInt(4) == 0 ? aDay() : m.day);
        drawHolds();
    }

    private String either(int open) {
        String text = both(open);
        return r.nextInt(5) == 0 ? text + "|" + both(open) : text;
    }

    private String both(int open) {
        String text = base(open);
        return r.nextInt(5) == 0 ? text + "&" + base(open) : text;
    }

    private String base(int open) {
        int how = open > 2 ? 9 : r.nextInt(12);
        if (how < 2) {
            return how == 0 ? "!" + base(open + 1) : "[" + either(open + 1) + "]";
        }
        String[] likely = {"n<" + r.nextInt(6), "h>" + (r.nextInt(3) - 1 + "").replace("-1", "0"), "y<" + r.nextInt(4), "w<" + r.nextInt(3000), "c<" + r.nextInt(4000),
            "t<i+" + r.nextInt(9000), "a>" + r.nextInt(24), "k=" + r.nextInt(5), "m>" + r.nextInt(9000), "d<" + r.nextInt(9), "h*2>n-2"};
        return r.nextInt(3) > 0 ? likely[r.nextInt(likely.length)] : sum(open) + "<=>".charAt(r.nextInt(3)) + sum(open);
    }

    private String sum(int open) {
        String text = operand(open);
        for (int i = r.nextInt(3); i > 0; i--) {
            text += "+-*/%".charAt(r.nextInt(5)) + operand(open);
        }
        return text;
    }

    private String operand(int open) {
        int how = r.nextInt(8);
        if (how == 0 && open < 3) {
            return "(" + sum(open + 1) + ")";
        }
        return how < 4 ? Integer.toString(r.nextInt(how == 1 ? 9999999 : 20)) : "" + SIGNS.charAt(r.nextInt(12));
    }

    private void drawHolds() {
        int use = some(0, 2);
        add("holds", use, aClub(), use == 0 || r.nextInt(20) == 0 ? aPlayer() : -1);
    }

    private void drawDeal() {
        int player = anOwned();
        add("deal", player, aBuyer(player), some(0, r.nextInt(3) == 0 ? 20000 : dearest), r.nextInt(3) > 0 ? -1 : some(-1, 5));
    }

    private void drawChain() {
        if (r.nextInt(4) > 0) {
            for (int n = r.nextInt(6); n >= 0; n--) {
                draw("deal");
            }
        }
        if (r.nextInt(3) == 0) {
            draw("undo");
        }
        if (r.nextInt(6) == 0) {
            draw("days");
        }
        add("chain");
    }

    private void drawRings() {
        int n = r.nextInt(7);
        for (int i = 0; i < n; i++) {
            int told = m.wishes.size() + i;
            add("wish", r.nextInt(9) == 0 ? some(0, 255) : r.nextInt(256) & r.nextInt(256) & ~(1 << told));
        }
        if (r.nextInt(4) > 0) {
            add("rings");
            for (int i = 0; i < 3; i++) {
                add("gets", some(0, 7));
            }
        }
    }

    private void drawBuys() {
        for (int n = r.nextInt(6); n > 0; n--) {
            add("candidate", 100 * some(0, r.nextInt(9) == 0 ? 9999 : 9) + 10 * some(0, 1) + some(0, 3), some(0, r.nextInt(9) == 0 ? 99999 : 9));
        }
        if (r.nextInt(3) > 0) {
            int least = r.nextInt(2) == 0 ? 0 : r.nextInt(9) == 0 ? some(0, 9999) : 1000 * r.nextInt(3) + 100 * r.nextInt(2) + 10 * r.nextInt(2) + r.nextInt(2);
            add("buys", r.nextInt(9) == 0 ? some(0, 9999999) : r.nextInt(50), 10 * some(0, 10) + r.nextInt(3), least);
        }
    }

    private void drawParts() {
        int most = r.nextInt(5) == 0 ? 999999 : 20;
        for (int n = r.nextInt(6); n > 0; n--) {
            add("claim", some(0, 3), some(1, most));
        }
        if (r.nextInt(3) > 0) {
            add("part", r.nextInt(9) == 0 ? some(0, 9999999) : some(0, most * 5));
            for (int i = 0; i < 3; i++) {
                add("got", some(0, 11));
            }
        }
    }
}
