import java.util.ArrayList;
import java.util.List;
import java.util.Random;

/** Runs of calls drawn by fixed seeds: no call throws, what is refused changes nothing, SPANS are as a day by day model has them. */
public final class RandomRunsTest {
    private static final int CALLS = 512;

    public static void main(String[] args) {
        for (int seed = 1; seed <= 300; seed++) {
            refusedCallsChangeNothing(seed);
        }
        for (int seed = 1; seed <= 60; seed++) {
            spansAsDayByDay(seed);
        }
        Due.end();
    }

    /** One call: which, its arguments, and whether it was refused. */
    private static final class Call {
        final int which;
        final long[] with;

        Call(int which, long... with) {
            this.which = which;
            this.with = with;
        }
    }

    private static void refusedCallsChangeNothing(int seed) {
        Random random = new Random(seed);
        PlayerMoves x = new PlayerMoves();
        PlayerMoves y = new PlayerMoves();
        long money = 0;
        int done = 0;
        for (int i = 0; i < CALLS; i++) {
            Call call = draw(random, x, i);
            long answer = make(x, call);
            if (!isRefusal(call.which, answer)) {
                Due.is("the same call in seed " + seed, make(y, call), answer);
                done++;
                if (call.which == 6) {
                    money += call.with[2];
                }
            }
        }
        Due.is("many calls were done in seed " + seed, done > CALLS / 5 ? 1 : 0, 1);
        Due.is("seed " + seed, digest(y), digest(x));
        for (int i = 0; i < x.count(0); i++) {
            int kind = x.ofBody(i, 0);
            money -= kind == 5 || kind == 7 ? x.ofBody(i, 2) : 0;
        }
        for (int i = 0; x.ofMove(i, 0) != PlayerMoves.VOID; i++) {
            money -= x.ofMove(i, 9);
        }
        Due.is("money that is lost in seed " + seed, money, 0);
    }

    /** buys() clears by NOT, too; act() of none clears THE TRACE; rule() empties THE TAPE by a FAULT. */
    private static boolean isRefusal(int which, long answer) {
        if (which == 42 || (which == 36 && answer == -2) || (which == 14 && answer == 0)) {
            return false;
        }
        return answer >= -30 && answer <= -1 || answer == PlayerMoves.VOID || answer == Long.MIN_VALUE;
    }

    private static int some(Random random, int least, int most) {
        int odd = random.nextInt(60);
        if (odd == 0) {
            return least - 1;
        }
        if (odd == 1) {
            return most + 1;
        }
        if (odd == 2) {
            return new int[] {Integer.MIN_VALUE, Integer.MAX_VALUE, 0, -1, 1 << 30}[random.nextInt(5)];
        }
        return least + random.nextInt(most - least + 1);
    }

    private static int pick(Random random, PlayerMoves x, int least, int most) {
        int n = x.count(0);
        if (random.nextInt(20) == 0) {
            return some(random, -1, n);
        }
        int first = random.nextInt(Math.max(1, n));
        for (int i = 0; i < n; i++) {
            int at = (first + i) % n;
            int kind = x.ofBody(at, 0);
            if (kind >= least && kind <= most && kind != 6) {
                return at;
            }
        }
        return -1;
    }

    private static int aClub(Random random, PlayerMoves x) {
        return pick(random, x, 5, 7);
    }

    private static int aPlayer(Random random, PlayerMoves x) {
        return pick(random, x, 2, 4);
    }

    private static final String SIGNS = "akhnywctildm0123456789!()[]<>=+-*/%&|;";

    private static Call draw(Random r, PlayerMoves x, int i) {
        if (i < 24) {
            return i % 3 == 0 ? new Call(6, r.nextBoolean() ? 5 : 7, some(r, 0, 3), some(r, 0, 20000))
                : i % 3 == 1 ? new Call(7, some(r, 2, 4), some(r, -9000, 0), some(r, 0, 99999), -1) : new Call(3, some(r, 0, 3), 0, 2999);
        }
        int which = 1 + r.nextInt(50);
        int day = x.count(6);
        int moves = x.count(4) + 2;
        switch (which) {
            case 1: return new Call(1, some(r, 1, 12));
            case 2: return new Call(2, r.nextInt(10) == 0 ? some(r, 0, 1439) : x.count(7));
            case 3: return new Call(3, some(r, 0, 3), some(r, 0, 100), some(r, 100, 2999));
            case 4: return new Call(4, some(r, 0, 3), some(r, 0, 2999));
            case 5: return new Call(5, some(r, 0, 3), some(r, 0, 1439));
            case 6: return new Call(6, r.nextBoolean() ? 5 : 7, some(r, 0, 3), some(r, 0, 20000));
            case 7: return new Call(7, some(r, 2, 4), some(r, -9000, 0), some(r, 0, 99999), some(r, -1, x.count(0)));
            case 8: return new Call(8, some(r, 0, 6));
            case 9: return new Call(9, aClub(r, x), some(r, 0, 9), some(r, 0, 9999999));
            case 10: return new Call(10, some(r, 0, x.count(0)), some(r, 0, 9));
            case 11: case 12: return new Call(12, aPlayer(r, x), aClub(r, x), some(r, -9999, 0), some(r, -5000, 0));
            case 13: case 14: return new Call(14, aPlayer(r, x), some(r, 0, 5), some(r, 0, 6), some(r, 1, 3));
            case 15: return new Call(15, aPlayer(r, x), aClub(r, x), some(r, day, Math.min(2999, day + 300)), some(r, 0, 99999));
            case 16: return new Call(16, aPlayer(r, x), some(r, -9999, 2999), some(r, 0, 1));
            case 17: return new Call(17, aPlayer(r, x), aClub(r, x));
            case 18: return drawTerm(r, day);
            case 19: case 20: case 21: return new Call(which, aPlayer(r, x), aClub(r, x), some(r, 0, 1));
            case 22: return new Call(22, some(r, 0, moves));
            case 23: return new Call(23, some(r, 0, moves), some(r, 0, 10));
            case 24: return new Call(24, some(r, 0, moves), aClub(r, x));
            case 25: return new Call(25, aPlayer(r, x), some(r, 1, 60));
            case 26: return new Call(r.nextInt(3) == 0 ? 26 : 20, r.nextInt(3) == 0 ? some(r, 0, moves) : aPlayer(r, x), aClub(r, x), 0);
            case 27: return new Call(27, aClub(r, x), some(r, 0, 6));
            case 28: return new Call(28, some(r, 1, 4), word(r));
            case 29: return new Call(29, 10 * some(r, 0, 3) + some(r, 0, 2), some(r, 0, 2999));
            default: return drawMore(r, x, which);
        }
    }

    private static int word(Random r) {
        int v = 0;
        for (int k = 0; k < 4; k++) {
            v |= SIGNS.charAt(r.nextInt(SIGNS.length())) << 8 * k;
        }
        return r.nextBoolean() ? 'a' | '<' << 8 | '9' << 16 | ';' << 24 : v;
    }

    private static Call drawTerm(Random r, int day) {
        int what = some(r, 0, 8);
        int[] most = {2000, 2999, 999, 5, 50, 500, 90, 2999, 2000};
        int most1 = what >= 0 && what < 9 ? most[what] : 5;
        boolean isDay = what == 1 || what == 7;
        return new Call(18, what, isDay ? some(r, day, Math.min(2999, day + 400)) : some(r, 1, most1));
    }

    private static Call drawMore(Random r, PlayerMoves x, int which) {
        switch (which) {
            case 30: return new Call(30, 10 * some(r, 0, 3) + some(r, 0, 2), some(r, 0, 2999), some(r, 0, 2999));
            case 31: return new Call(31, some(r, 0, 2), aClub(r, x), r.nextBoolean() ? -1 : aPlayer(r, x));
            case 32: return new Call(32, some(r, 0, 5), some(r, 0, 3));
            case 33: return new Call(33, aPlayer(r, x), aClub(r, x), some(r, 0, 20000), some(r, -1, 5));
            case 34: return new Call(34, some(r, 0, 255));
            case 35: return new Call(35, 100 * some(r, 0, 99) + 10 * some(r, 0, 1) + some(r, 0, 3), some(r, 0, 99999));
            case 36: return r.nextInt(3) > 0 ? new Call(35, 100 * some(r, 0, 99) + some(r, 0, 3), some(r, 0, 99))
                : new Call(36, some(r, 0, 400), some(r, 0, 109), some(r, 0, 11));
            case 37: return new Call(37, some(r, 0, 3), some(r, 1, 999999));
            case 38: return new Call(r.nextInt(3) > 0 ? 37 : 38, some(r, 0, 3), some(r, 1, 999));
            case 39: return new Call(39, some(r, 0, 9));
            case 40: return new Call(40, some(r, 0, 9));
            case 41: return new Call(41);
            case 42: return new Call(42, some(r, 0, x.count(0)), some(r, 0, 3), r.nextInt());
            case 43: return new Call(43, some(r, 0, 12));
            case 44: return new Call(44, some(r, 0, 5), some(r, -1, x.count(0)));
            case 45: return new Call(45, some(r, 0, 5), some(r, 0, 4), some(r, 0, 60));
            case 46: return new Call(46, some(r, 0, 5), some(r, 0, 20), r.nextBoolean() ? r.nextLong() : r.nextInt(9000) - 8990);
            case 47: return new Call(47, some(r, 0, 5), some(r, 0, 20));
            case 48: return new Call(48, some(r, 0, 5), some(r, 0, 20), some(r, 0, 5), some(r, 0, 20), some(r, 0, 20));
            case 49: return new Call(49, some(r, 0, 5), some(r, 0, 7));
            default: return new Call(50, some(r, 0, 10));
        }
    }

    private static long make(PlayerMoves x, Call call) {
        long[] w = new long[6];
        System.arraycopy(call.with, 0, w, 0, call.with.length);
        int a = (int) w[0];
        int b = (int) w[1];
        int c = (int) w[2];
        int d = (int) w[3];
        switch (call.which) {
            case 1: return x.days(a);
            case 2: return x.minute(a);
            case 3: return x.window(a, b, c);
            case 4: return x.open(a, b);
            case 5: return x.papers(a, b);
            case 6: return x.club(a, b, c);
            case 7: return x.player(a, b, c, d);
            case 8: return x.body(a);
            case 9: return x.income(a, b, c);
            case 10: return x.ofBody(a, b);
            case 12: return x.past(a, b, c, d);
            case 14: return x.spans(a, b, c, d);
            case 15: return x.sign(a, b, c, d);
            case 16: return x.at(a, b, c);
            case 17: return x.taught(a, b);
            case 18: return x.term(a, b);
            case 19: return x.why(a, b, c);
            case 20: return x.sell(a, b);
            case 21: return x.lend(a, b);
            case 22: return x.option(a);
            case 23: return x.ofMove(a, b);
            case 24: return x.share(a, b);
            case 25: return x.play(a, b);
            case 26: return x.undo(a);
            case 27: return x.squad(a, b);
            default: return makeMore(x, call.which, w);
        }
    }

    private static long makeMore(PlayerMoves x, int which, long[] w) {
        int a = (int) w[0];
        int b = (int) w[1];
        int c = (int) w[2];
        int d = (int) w[3];
        switch (which) {
            case 28: return x.feed(a, b);
            case 29: return x.rule(a, b);
            case 30: return x.inForce(a, b, c);
            case 31: return x.holds(a, b, c);
            case 32: return x.tryCap(a, b);
            case 33: return x.deal(a, b, c, d);
            case 34: return x.wish(a);
            case 35: return x.candidate(a, b);
            case 36: return x.buys(a, b, c);
            case 37: return x.claim(a, b);
            case 38: return x.part(a);
            case 39: return x.gets(a);
            case 40: return x.got(a);
            case 41: return x.count(6) % 2 == 0 ? x.chain() : x.rings();
            case 42: return x.act(a, b, c);
            case 43: return x.trace(a);
            case 44: return x.keep(a, b);
            case 45: return x.row(a, b, c);
            case 46: return x.put(a, b, w[2]);
            case 47: return x.element(a, b);
            case 48: return x.shift(a, b, c, d, (int) w[4]);
            case 49: return x.taken(a, b);
            default: return x.count(a);
        }
    }

    private static long digest(PlayerMoves x) {
        long h = 7;
        for (int what = 0; what <= 10; what++) {
            h = h * 31 + x.count(what);
        }
        for (int b = 0; b < x.count(0); b++) {
            for (int what = 0; what < 10; what++) {
                h = h * 31 + x.ofBody(b, what);
                h = h * 31 + x.squad(b, what);
                h = h * 31 + x.at(b, 10 * what, 0);
                h = h * 31 + x.taught(b, what);
            }
        }
        for (int m = 0; m < 200; m++) {
            for (int what = 0; what < 11; what++) {
                h = h * 31 + x.ofMove(m, what);
                h = h * 31 + x.share(m, what);
            }
        }
        for (int i = 0; i < 60; i++) {
            for (int shelf = 0; shelf < 6; shelf++) {
                h = h * 31 + x.element(shelf, i);
                h = h * 31 + x.taken(shelf, i % 8);
            }
            h = h * 31 + x.got(i) + 7 * x.gets(i) + 13 * x.trace(i);
            h = h * 31 + x.inForce(i, 2999, 2999) + x.open(i % 4, 50 * i);
        }
        for (int i = 0; i < 4; i++) {
            h = h * 31 + x.papers(i, 0);
        }
        h = h * 31 + x.chain() + 7 * x.rings() + 13 * x.buys(9999, 100, 0) + 17 * x.part(99999);
        for (int i = 0; i < 12; i++) {
            h = h * 31 + x.got(i) + 7 * x.gets(i);
        }
        for (int what = 0; what < 9; what++) {
            h = h * 31 + x.term(what, 1);
        }
        return h;
    }

    /** A SPAN as the model has it. */
    private static final class Lain {
        final int player;
        final int club;
        final char sort;
        final int from;
        final int to;
        final int move;
        int undone = 99999;

        Lain(int player, int club, char sort, int from, int to, int move) {
            this.player = player;
            this.club = club;
            this.sort = sort;
            this.from = from;
            this.to = to;
            this.move = move;
        }
    }

    private static void spansAsDayByDay(int seed) {
        Random r = new Random(seed * 31L);
        PlayerMoves x = new PlayerMoves();
        List<Lain> all = new ArrayList<>();
        for (int i = 0; i < 5; i++) {
            x.club(i % 2 == 0 ? 5 : 7, i % 2, 9999999);
        }
        int[] born = new int[8];
        for (int i = 5; i < 8; i++) {
            born[i] = -3600 - r.nextInt(1500);
            x.player(2, born[i], 5, -1);
        }
        x.window(0, 0, 2999);
        x.window(1, 0, 2999);
        for (int i = 0; i < 120; i++) {
            step(r, x, all);
            int player = 5 + r.nextInt(3);
            for (int k = 0; k < 4; k++) {
                int day = k == 0 ? x.count(6) : r.nextInt(2400) - 1000;
                Due.is("HOLDER in seed " + seed, x.at(player, day, 0), counts(all, player, day, false));
                Due.is("OWNER in seed " + seed, x.at(player, day, 1), counts(all, player, day, true));
            }
            if (i % 20 == 19) {
                int[] days = new int[5];
                for (int day = born[player]; day <= x.count(6); day++) {
                    int holder = counts(all, player, day, false);
                    int age = (day - born[player]) / 300;
                    if (holder >= 0 && age >= 12 && age <= 22) {
                        days[holder]++;
                    }
                }
                for (int club = 0; club < 5; club++) {
                    Due.is("taught in seed " + seed, x.taught(player, club), days[club]);
                }
            }
        }
    }

    private static void step(Random r, PlayerMoves x, List<Lain> all) {
        int player = 5 + r.nextInt(3);
        int club = r.nextInt(5);
        int today = x.count(6);
        int till = Math.min(2999, today + r.nextInt(120));
        int from = -r.nextInt(900);
        int to = Math.min(0, from + r.nextInt(400));
        x.term(1, till);
        x.term(7, till);
        x.term(8, 1);
        int moves = countMoves(x);
        switch (r.nextInt(8)) {
            case 0:
                x.past(player, club, from, to);
                all.add(new Lain(player, club, 'p', from, to, -1));
                return;
            case 1: case 2:
                if (x.sign(player, club, till, 0) == 1) {
                    all.add(new Lain(player, club, 'o', today, till, -1));
                }
                return;
            case 3:
                if (x.sell(player, club) >= 0) {
                    all.add(new Lain(player, club, 'o', today, till, moves));
                }
                return;
            case 4:
                if (x.lend(player, club) >= 0) {
                    all.add(new Lain(player, club, 'l', today, till, moves));
                }
                return;
            case 5:
                int loan = r.nextInt(moves + 1);
                if (x.option(loan) >= 0) {
                    all.add(new Lain(x.ofMove(loan, 0), x.ofMove(loan, 2), 'o', today, till, moves));
                }
                return;
            case 6:
                int undone = r.nextInt(moves + 1);
                for (Lain s : all) {
                    if (s.move == undone && s.undone == 99999 && x.undo(undone) == 1) {
                        s.undone = today;
                    }
                }
                return;
            default:
                x.days(1 + r.nextInt(30));
        }
    }

    private static int countMoves(PlayerMoves x) {
        int n = 0;
        while (x.ofMove(n, 0) != PlayerMoves.VOID) {
            n++;
        }
        return n;
    }

    private static int counts(List<Lain> all, int player, int day, boolean owner) {
        Lain own = null;
        for (Lain s : all) {
            if (s.player == player && s.sort == 'o' && s.from <= day && day < s.undone) {
                own = s;
            }
        }
        if (owner) {
            return own != null && own.to >= day ? own.club : -2;
        }
        int holder = -2;
        for (Lain s : all) {
            boolean lies = s.player == player && s.from <= day && day <= s.to && day < s.undone;
            if (lies && (s.sort != 'o' || s == own)) {
                holder = s.club;
            }
        }
        return holder;
    }
}
