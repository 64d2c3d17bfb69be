/** The edges of promises 1 to 6, and of section 1 of the Terms as far as it tells of time and leagues. */
final class EdgesTime {
    private static final int BAD = PlayerMoves.BAD, NOT = PlayerMoves.NOT, FULL = PlayerMoves.FULL, VOID = PlayerMoves.VOID;
    private static final int MIN = Integer.MIN_VALUE, MAX = Integer.MAX_VALUE;

    private EdgesTime() {
    }

    static void all() {
        p01NewObject();
        p01NobodyAndNothing();
        p01NothingChosenYet();
        p02Days();
        p03Minute();
        p04Window();
        p05Open();
        p06Papers();
        t1DayAndMinute();
        t1Year();
        t1Windows();
    }

    private static void p01NewObject() {
        Edge.p(1, "DAY 0, nobody, no rules.");
        PlayerMoves x = new PlayerMoves();
        for (int what = 0; what <= 10; what++) {
            Edge.is("count(" + what + ")", x.count(what), 0);
        }
        for (int league = 0; league < 4; league++) {
            Edge.is("open(" + league + ", 0)", x.open(league, 0), 0);
            Edge.is("open(" + league + ", 2999)", x.open(league, 2999), 0);
            Edge.is("papers(" + league + ", 5)", x.papers(league, 5), 1439);
            for (int use = 0; use < 3; use++) {
                Edge.is("inForce(" + (10 * league + use) + ", 0, 0)", x.inForce(10 * league + use, 0, 0), NOT);
                Edge.is("inForce(" + (10 * league + use) + ", 2999, 2999)", x.inForce(10 * league + use, 2999, 2999), NOT);
            }
        }
        Edge.is("minute(0)", x.minute(0), 0);
        Edge.is("rule(0, 0) of an empty TAPE", x.rule(0, 0), -100);
    }

    private static void p01NobodyAndNothing() {
        Edge.p(1, "DAY 0, nobody, no rules.");
        Edge.no("ofBody(0, 0)", Worlds::fresh, x -> x.ofBody(0, 0), VOID);
        Edge.no("income(0, 0, 5)", Worlds::fresh, x -> x.income(0, 0, 5), BAD);
        Edge.no("past(0, 0, -5, -4)", Worlds::fresh, x -> x.past(0, 0, -5, -4), BAD);
        Edge.no("spans(0, 0, 0, 1)", Worlds::fresh, x -> x.spans(0, 0, 0, 1), BAD);
        Edge.no("sign(0, 0, 5, 5)", Worlds::fresh, x -> x.sign(0, 0, 5, 5), BAD);
        Edge.no("at(0, 0, 0)", Worlds::fresh, x -> x.at(0, 0, 0), BAD);
        Edge.no("taught(0, 0)", Worlds::fresh, x -> x.taught(0, 0), BAD);
        Edge.no("why(0, 0, 0)", Worlds::fresh, x -> x.why(0, 0, 0), BAD);
        Edge.no("sell(0, 0)", Worlds::fresh, x -> x.sell(0, 0), BAD);
        Edge.no("lend(0, 0)", Worlds::fresh, x -> x.lend(0, 0), BAD);
        Edge.no("option(0)", Worlds::fresh, x -> x.option(0), BAD);
        Edge.no("ofMove(0, 0)", Worlds::fresh, x -> x.ofMove(0, 0), VOID);
        Edge.no("share(0, 0)", Worlds::fresh, x -> x.share(0, 0), BAD);
        Edge.no("play(0, 1)", Worlds::fresh, x -> x.play(0, 1), BAD);
        Edge.no("undo(0)", Worlds::fresh, x -> x.undo(0), BAD);
        Edge.no("squad(0, 0)", Worlds::fresh, x -> x.squad(0, 0), BAD);
        Edge.no("holds(1, 0, -1)", Worlds::fresh, x -> x.holds(1, 0, -1), BAD);
        Edge.no("tryCap(0, 0)", Worlds::fresh, x -> x.tryCap(0, 0), BAD);
        Edge.no("deal(0, 0, 0, -1)", Worlds::fresh, x -> x.deal(0, 0, 0, -1), BAD);
    }

    private static void p01NothingChosenYet() {
        Edge.p(1, "DAY 0, nobody, no rules.");
        Edge.no("chain()", Worlds::fresh, x -> x.chain(), BAD);
        Edge.no("rings()", Worlds::fresh, x -> x.rings(), BAD);
        Edge.no("gets(0)", Worlds::fresh, x -> x.gets(0), BAD);
        Edge.no("buys(9, 100, 0)", Worlds::fresh, x -> x.buys(9, 100, 0), BAD);
        Edge.no("part(9)", Worlds::fresh, x -> x.part(9), BAD);
        Edge.no("got(0)", Worlds::fresh, x -> x.got(0), BAD);
        Edge.no("act(0, 0, 5)", Worlds::fresh, x -> x.act(0, 0, 5), 0);
        Edge.no("trace(0)", Worlds::fresh, x -> x.trace(0), BAD);
        Edge.no("keep(0, 0)", Worlds::fresh, x -> x.keep(0, 0), BAD);
        for (int shelf = 0; shelf < 6; shelf++) {
            int at = shelf;
            Edge.no("put(" + at + ", 0, 5)", Worlds::fresh, x -> x.put(at, 0, 5), -11);
            Edge.no("element(" + at + ", 0)", Worlds::fresh, x -> x.element(at, 0), Long.MIN_VALUE);
            Edge.no("shift(" + at + ", ..)", Worlds::fresh, x -> x.shift(at, 0, at, 0, 0), -11);
            Edge.no("taken(" + at + ", 0)", Worlds::fresh, x -> x.taken(at, 0), -11);
        }
        Edge.t(7, "All memory is the class's own.");
        PlayerMoves x = Worlds.busy();
        Edge.is("another object's days(1)", new PlayerMoves().days(1), 1);
        Edge.is("the first one's DAY", x.count(6), 10);
        Edge.is("another object's count(0)", new PlayerMoves().count(0), 0);
    }

    private static void p02Days() {
        Edge.p(2, "n (1 .. 300) DAYS go by: DAY (MINUTE 0).");
        int[] bad = {0, -1, 301, MAX, MIN, -300};
        for (int n : bad) {
            Edge.no("days(" + n + ")", x -> x.days(n), BAD);
            Edge.no("days(" + n + ") of a new one", Worlds::fresh, x -> x.days(n), BAD);
        }
        PlayerMoves x = Worlds.busy();
        Edge.is("days(1)", x.days(1), 11);
        Edge.is("MINUTE", x.count(7), 0);
        Edge.is("days(300)", x.days(300), 311);
        Edge.p(2, "BAD (also beyond 2999).");
        Edge.no("days(1) on DAY 2999", Worlds::lastDay, y -> y.days(1), BAD);
        Edge.no("days(300) on DAY 2999", Worlds::lastDay, y -> y.days(300), BAD);
        Due.until(x, 2699);
        Edge.is("days(300) up to 2999", x.days(300), 2999);
        PlayerMoves y = Worlds.fresh();
        Due.until(y, 2700);
        y.minute(9);
        Edge.is("days(300) up to 3000", y.days(300), BAD);
        Edge.is("DAY as it was", y.count(6), 2700);
        Edge.is("MINUTE as it was", y.count(7), 9);
        Edge.is("days(299) up to 2999", y.days(299), 2999);
        Edge.is("days(1) up to 3000", y.days(1), BAD);
    }

    private static void p03Minute() {
        Edge.p(3, "MINUTE becomes v (that now, or later): what it was. BAD.");
        int[] bad = {29, 0, -1, 1440, MAX, MIN};
        for (int v : bad) {
            Edge.no("minute(" + v + ") at 30", x -> x.minute(v), BAD);
        }
        Edge.no("minute(-1) at 0", Worlds::fresh, x -> x.minute(-1), BAD);
        Edge.no("minute(1440) at 0", Worlds::fresh, x -> x.minute(1440), BAD);
        PlayerMoves x = Worlds.busy();
        Edge.is("minute(30) at 30", x.minute(30), 30);
        Edge.is("minute(31) at 30", x.minute(31), 30);
        Edge.is("minute(1439) at 31", x.minute(1439), 31);
        Edge.is("minute(1439) at 1439", x.minute(1439), 1439);
        Edge.is("minute(1438) at 1439", x.minute(1438), BAD);
        Edge.is("minute(0) at 1439", x.minute(0), BAD);
        Edge.is("MINUTE as it was", x.count(7), 1439);
        x.days(1);
        Edge.is("minute(0) of the next DAY", x.minute(0), 0);
    }

    private static void p04Window() {
        Edge.p(4, "BAD (DAYS 0 .. 2999; from at most to)");
        int[][] bad = {{-1, 0, 5}, {4, 0, 5}, {MAX, 0, 5}, {MIN, 0, 5}, {2, -1, 5}, {2, MIN, 5}, {2, 0, 3000}, {2, 0, MAX}, {2, 3000, 3000}, {2, 5, 4},
            {2, 2999, 0}, {2, -2, -1}, {2, MAX, MIN}};
        for (int[] w : bad) {
            Edge.no("window(" + w[0] + ", " + w[1] + ", " + w[2] + ")", x -> x.window(w[0], w[1], w[2]), BAD);
        }
        Edge.no("window(3, 5, 4) when FULL", x -> x.window(3, 5, 4), BAD);
        PlayerMoves x = Worlds.busy();
        Edge.is("window(2, 0, 0)", x.window(2, 0, 0), 1);
        Edge.is("window(2, 2999, 2999)", x.window(2, 2999, 2999), 2);
        Edge.is("window(2, 0, 2999)", x.window(2, 0, 2999), 3);
        Edge.p(4, "A WINDOW of a LEAGUE: how many it has. BAD (DAYS 0 .. 2999; from at most to), FULL.");
        Edge.no("window(3, 1000, 2000) when FULL", y -> y.window(3, 1000, 2000), FULL);
        Edge.no("window(3, 0, 0) when FULL", y -> y.window(3, 0, 0), FULL);
        for (int n = 4; n <= 6; n++) {
            Edge.is("WINDOW " + n, x.window(2, 7, 7), n);
        }
        Edge.is("WINDOW 7", x.window(2, 7, 7), FULL);
        Edge.is("another LEAGUE's second", x.window(0, 0, 0), 2);
    }

    private static void p05Open() {
        Edge.p(5, "Whether a LEAGUE is OPEN on a DAY (1, 0). BAD.");
        int[][] bad = {{-1, 0}, {4, 0}, {MAX, 0}, {MIN, 0}, {0, -1}, {0, 3000}, {0, MAX}, {0, MIN}};
        for (int[] w : bad) {
            Edge.no("open(" + w[0] + ", " + w[1] + ")", x -> x.open(w[0], w[1]), BAD);
        }
        Edge.no("open(0, 0)", x -> x.open(0, 0), 1);
        Edge.no("open(0, 2999)", x -> x.open(0, 2999), 1);
        Edge.no("open(2, 0) without a WINDOW", x -> x.open(2, 0), 0);
        Edge.no("open(2, 2999) without a WINDOW", x -> x.open(2, 2999), 0);
        for (int i = 0; i < 6; i++) {
            int from = 100 * i;
            Edge.no("ahead of WINDOW " + i, x -> x.open(3, Math.max(0, from - 1)), i == 0 ? 1 : 0);
            Edge.no("the first DAY of WINDOW " + i, x -> x.open(3, from), 1);
            Edge.no("the last DAY of WINDOW " + i, x -> x.open(3, from + 50), 1);
            Edge.no("behind WINDOW " + i, x -> x.open(3, from + 51), 0);
        }
    }

    private static void p06Papers() {
        Edge.p(6, "The MINUTE by which PAPERS of a LEAGUE must be in: what it was. BAD.");
        int[][] bad = {{-1, 0}, {4, 0}, {MAX, 0}, {MIN, 0}, {1, -1}, {1, 1440}, {1, MAX}, {1, MIN}};
        for (int[] w : bad) {
            Edge.no("papers(" + w[0] + ", " + w[1] + ")", x -> x.papers(w[0], w[1]), BAD);
        }
        PlayerMoves x = Worlds.busy();
        for (int league = 0; league < 4; league++) {
            Edge.is("papers(" + league + ", 0)", x.papers(league, 0), league == 1 ? 700 : 1439);
            Edge.is("papers(" + league + ", 1439)", x.papers(league, 1439), 0);
            Edge.is("papers(" + league + ", league)", x.papers(league, league), 1439);
        }
        for (int league = 0; league < 4; league++) {
            Edge.is("papers(" + league + ", 9)", x.papers(league, 9), league);
        }
    }

    private static void t1DayAndMinute() {
        Edge.t(1, "DAY is a count, 0 at first, at most 2999, with a MINUTE 0 .. 1439 (0 at first; it only goes on; when a DAY begins it is 0)");
        PlayerMoves x = new PlayerMoves();
        Edge.is("DAY at first", x.count(6), 0);
        Edge.is("MINUTE at first", x.count(7), 0);
        Edge.is("minute(1439)", x.minute(1439), 0);
        Edge.is("minute(1440)", x.minute(1440), BAD);
        Edge.is("minute(1438)", x.minute(1438), BAD);
        Edge.is("DAY does not go on by it", x.count(6), 0);
        Edge.is("days(1)", x.days(1), 1);
        Edge.is("MINUTE as a DAY begins", x.count(7), 0);
        Due.until(x, 2999);
        Edge.is("DAY at most", x.count(6), 2999);
        Edge.is("days(1)", x.days(1), BAD);
        Edge.is("minute(1439) on the last DAY", x.minute(1439), 0);
    }

    private static void t1Year() {
        Edge.t(1, "A YEAR is DAY / 300 (0 .. 9).");
        PlayerMoves x = Worlds.fresh();
        x.club(5, 0, 0);
        for (int year = 0; year < 10; year++) {
            Due.rule(x, 2, 0, "d=" + year);
            Due.until(x, 300 * year);
            Edge.is("the first DAY of YEAR " + year, x.holds(2, 0, -1), NOT);
            Due.until(x, 300 * year + 299);
            Edge.is("the last DAY of YEAR " + year, x.holds(2, 0, -1), NOT);
        }
        Edge.is("income(0, 9, 1)", x.income(0, 9, 1), 0);
        Edge.is("income(0, 10, 1)", x.income(0, 10, 1), BAD);
    }

    private static void t1Windows() {
        Edge.t(1, "LEAGUES 0 .. 3: WINDOWS of each, at most 6: from a DAY to a DAY, both counted; OPEN on a DAY, if one of them has it.");
        PlayerMoves x = Worlds.fresh();
        int[] leagues = {0, 3};
        for (int league : leagues) {
            x.window(league, 10, 10);
            x.window(league, 5, 20);
            x.window(league, 30, 40);
            x.window(league, 35, 36);
            x.window(league, 50, 50);
            Edge.is("WINDOW 6", x.window(league, 2999, 2999), 6);
            Edge.is("WINDOW 7", x.window(league, 100, 200), FULL);
            int[] days = {4, 5, 10, 11, 20, 21, 29, 30, 36, 37, 40, 41, 49, 50, 51, 100, 2998, 2999};
            int[] open = {0, 1, 1, 1, 1, 0, 0, 1, 1, 1, 1, 0, 0, 1, 0, 0, 0, 1};
            for (int i = 0; i < days.length; i++) {
                Edge.is("open(" + league + ", " + days[i] + ")", x.open(league, days[i]), open[i]);
            }
        }
        Edge.is("LEAGUE 1 is not OPEN by them", x.open(1, 10), 0);
        Edge.is("LEAGUE 4", x.window(4, 0, 1), BAD);
        Edge.is("LEAGUE -1", x.window(-1, 0, 1), BAD);
    }
}
