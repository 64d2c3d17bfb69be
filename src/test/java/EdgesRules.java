/** The edges of promises 26 to 31, and of sections 4 and 5 of the Terms. */
final class EdgesRules {
    private static final int BAD = PlayerMoves.BAD, NOT = PlayerMoves.NOT, FULL = PlayerMoves.FULL;
    private static final int MIN = Integer.MIN_VALUE, MAX = Integer.MAX_VALUE;
    private static final int[] NO_CLUBS = {-1, 3, 4, 8, 9, 10, 150, MAX, MIN};
    private static final int[] NO_PLAYERS = {-1, 0, 1, 2, 3, 8, 9, 10, 150, MAX, MIN};
    private static final int[] NO_RULES = {-1, 3, 9, 13, 19, 23, 29, 33, 40, 41, 42, 100, -10, -9, MAX, MIN};

    private EdgesRules() {
    }

    static void all() {
        p26Squad();
        p27Feed();
        p27FeedFull();
        p28RuleBad();
        p28RuleFull();
        p28RuleFault();
        p29InForce();
        p30Holds();
        p31TryCap();
        t4HomeGrown();
        t4Cap();
        t4ThreeYears();
        t5InForce();
        EdgesTexts.all();
    }

    private static void p26Squad() {
        Edge.p(26, "BAD.");
        for (int club : NO_CLUBS) {
            Edge.no("squad(" + club + ", 0)", x -> x.squad(club, 0), BAD);
        }
        int[] whats = {-1, 7, MAX, MIN};
        for (int what : whats) {
            Edge.no("squad(0, " + what + ")", x -> x.squad(0, what), BAD);
        }
        Edge.p(26, "0 how many it HOLDS, 1 HOME GROWN ones, 2 YOUTHS, 3 WAGES, 4 CAP of this YEAR, 5 THREE YEARS' CAPS, 6 their INCOME.");
        int[][] due = {{2, 1, 1, 100, 100, 100, 5000}, {1, 1, 0, 240, 274, 274, 0}, {0, 0, 0, 0, 0, 0, 0}};
        for (int i = 0; i < 3; i++) {
            int club = i;
            for (int k = 0; k < 7; k++) {
                int what = k;
                Edge.no("squad(" + club + ", " + what + ")", x -> x.squad(club, what), due[club][what]);
            }
        }
        PlayerMoves x = Worlds.lastDay();
        int[] then = {1, 1, 1, 100, 100, 300, 1};
        for (int what = 0; what < 7; what++) {
            Edge.is("on the last DAY squad(0, " + what + ")", x.squad(0, what), then[what]);
        }
    }

    private static void p27Feed() {
        Edge.p(27, "n (1 .. 4) bytes come to THE TAPE, the lowest of v first: how many it has.");
        int[] bad = {0, -1, 5, MAX, MIN};
        for (int n : bad) {
            Edge.no("feed(" + n + ", 0)", x -> x.feed(n, 0), BAD);
            Edge.no("feed(" + n + ", 0) when FULL", () -> Worlds.tape(160), x -> x.feed(n, 0), BAD);
        }
        for (int n = 1; n <= 4; n++) {
            PlayerMoves x = Worlds.fresh();
            Edge.is("feed(" + n + ", a<1;)", x.feed(n, 'a' | '<' << 8 | '1' << 16 | ';' << 24), n);
            Edge.is("count(8)", x.count(8), n);
            Edge.is("its bytes", x.rule(0, 0), n == 3 ? 0 : -100 - n);
        }
        PlayerMoves x = Worlds.fresh();
        Edge.is("the lowest first", x.feed(4, ';' | '1' << 8 | '<' << 16 | 'a' << 24), 4);
        Edge.is("the first byte is ;", x.rule(0, 0), -100);
        x.feed(3, 'a' | '<' << 8 | '1' << 16);
        x.feed(1, 200 << 24 | 0xff);
        Edge.is("of v above 127 its lowest byte", x.rule(0, 0), -103);
        x.feed(1, 0x7fffff00 | 'a');
        x.feed(1, MIN | '<');
        x.feed(1, -256 | '9');
        Edge.is("the other bits of v do not come", x.rule(0, 0), 0);
    }

    private static void p27FeedFull() {
        Edge.p(27, "BAD, FULL.");
        int[][] cases = {{160, 1}, {160, 4}, {159, 2}, {159, 3}, {159, 4}, {158, 3}, {158, 4}, {157, 4}};
        for (int[] w : cases) {
            Edge.no("feed(" + w[1] + ", 0) with " + w[0], () -> Worlds.tape(w[0]), x -> x.feed(w[1], 0), FULL);
        }
        for (int n = 1; n <= 4; n++) {
            Edge.is("feed(" + n + ", 0) up to 160", Worlds.tape(160 - n).feed(n, 0), 160);
        }
        PlayerMoves x = Worlds.tape(160);
        Edge.is("count(8)", x.count(8), 160);
        x.rule(0, 0);
        Edge.is("count(8) of an empty TAPE", x.count(8), 0);
        Edge.is("feed(4, 0) of an empty TAPE", x.feed(4, 0), 4);
    }

    private static PlayerMoves faultyAndFull() {
        PlayerMoves x = Worlds.fullRules();
        x.feed(1, ';');
        return x;
    }

    private static void p28RuleBad() {
        Edge.p(28, "from a DAY on (0 .. 2999): its number (0 .. 15); -100 less its FAULT; THE TAPE is empty then. BAD");
        for (int what : NO_RULES) {
            Edge.no("rule(" + what + ", 0)", x -> x.rule(what, 0), BAD);
            Edge.no("rule(" + what + ", 0) when FULL", Worlds::fullRules, x -> x.rule(what, 0), BAD);
            Edge.no("rule(" + what + ", 0) of a faulty TAPE", Worlds::fresh, x -> x.rule(what, 0), BAD);
        }
        int[] froms = {-1, 3000, MAX, MIN};
        for (int from : froms) {
            Edge.no("rule(0, " + from + ")", x -> x.rule(0, from), BAD);
            Edge.no("rule(0, " + from + ") when FULL", Worlds::fullRules, x -> x.rule(0, from), BAD);
        }
        PlayerMoves x = Worlds.busy();
        Edge.is("rule(0, 0)", x.rule(0, 0), 4);
        Edge.is("THE TAPE is empty then", x.count(8), 0);
        Edge.is("rule(32, 2999)", Due.rule(x, 32, 2999, "a<1"), 5);
        Edge.is("inForce(32, 2999, 10)", x.inForce(32, 2999, 10), 5);
        Edge.is("inForce(32, 2998, 10)", x.inForce(32, 2998, 10), NOT);
    }

    private static void p28RuleFull() {
        Edge.p(28, "BAD, FULL (THE TAPE stays).");
        Edge.no("rule(0, 0) when FULL", Worlds::fullRules, x -> x.rule(0, 0), FULL);
        Edge.no("rule(0, 0) of a faulty TAPE when FULL", EdgesRules::faultyAndFull, x -> x.rule(0, 0), FULL);
        Edge.is("THE TAPE stays", Worlds.fullRules().count(8), 3);
        PlayerMoves x = Worlds.fresh();
        for (int i = 0; i < 16; i++) {
            Edge.is("RULE " + i, Due.rule(x, 10 * (i % 4), i, "a=0"), i);
        }
        Edge.is("RULE 16", Due.rule(x, 0, 0, "a=0"), FULL);
        Edge.is("THE TAPE stays", x.count(8), 3);
        Edge.is("again", x.rule(0, 0), FULL);
        Edge.is("count(5)", x.count(5), 16);
    }

    private static void p28RuleFault() {
        Edge.p(28, "-100 less its FAULT; THE TAPE is empty then.");
        PlayerMoves x = Worlds.fresh();
        Edge.is("an empty TAPE", x.rule(0, 0), -100);
        for (int n = 1; n <= 160; n++) {
            PlayerMoves y = Worlds.fresh();
            for (int i = 0; i < n; i++) {
                y.feed(1, "a+".charAt(i % 2));
            }
            Edge.is("one that ends too early with " + n, y.rule(0, 0), -100 - n);
            Edge.is("THE TAPE is empty then", y.count(8), 0);
        }
        Edge.is("a wrong one", Due.rule(x, 0, 0, "a=0;?"), -104);
        Edge.is("THE TAPE is empty then", x.count(8), 0);
        Edge.is("no RULE came", x.count(5), 0);
        Edge.is("no RULE is in force", x.inForce(0, 2999, 2999), NOT);
        Edge.is("a good one then", Due.rule(x, 0, 0, "a=0"), 0);
    }

    private static void p29InForce() {
        Edge.p(29, "The RULE in force on DAY d AS KNOWN on DAY k; NOT: none. BAD.");
        for (int what : NO_RULES) {
            Edge.no("inForce(" + what + ", 10, 10)", x -> x.inForce(what, 10, 10), BAD);
        }
        int[] bad = {-1, 3000, MAX, MIN};
        for (int day : bad) {
            Edge.no("inForce(11, " + day + ", 10)", x -> x.inForce(11, day, 10), BAD);
            Edge.no("inForce(11, 10, " + day + ")", x -> x.inForce(11, 10, day), BAD);
        }
        int[][] due = {{11, 4, 10, NOT}, {11, 5, 10, 1}, {11, 5, 9, NOT}, {11, 2999, 2999, 1}, {11, 0, 0, NOT}, {12, 19, 2999, 2}, {12, 20, 10, 3}, {12, 0, 10, 2},
            {0, 0, 10, 0}, {0, 0, 9, NOT}, {10, 2999, 2999, NOT}, {32, 2999, 2999, NOT}, {1, 2999, 2999, NOT}};
        for (int[] w : due) {
            Edge.no("inForce(" + w[0] + ", " + w[1] + ", " + w[2] + ")", x -> x.inForce(w[0], w[1], w[2]), w[3]);
        }
    }

    private static void p30Holds() {
        Edge.p(30, "for a CLUB (and a PLAYER, of USE 0; of others -1, else BAD): the first LINE that does not hold; NOT: it holds. BAD.");
        int[] uses = {-1, 3, MAX, MIN};
        for (int use : uses) {
            Edge.no("holds(" + use + ", 0, -1)", x -> x.holds(use, 0, -1), BAD);
            Edge.no("holds(" + use + ", 0, 4)", x -> x.holds(use, 0, 4), BAD);
        }
        for (int club : NO_CLUBS) {
            Edge.no("holds(0, " + club + ", 4)", x -> x.holds(0, club, 4), BAD);
            Edge.no("holds(1, " + club + ", -1)", x -> x.holds(1, club, -1), BAD);
            Edge.no("holds(2, " + club + ", -1)", x -> x.holds(2, club, -1), BAD);
        }
        for (int who : NO_PLAYERS) {
            Edge.no("holds(0, 0, " + who + ")", x -> x.holds(0, 0, who), BAD);
        }
        int[] notNobody = {-2, 0, 4, 5, 6, 7, 10, MAX, MIN};
        for (int who : notNobody) {
            Edge.no("holds(1, 0, " + who + ")", x -> x.holds(1, 0, who), BAD);
            Edge.no("holds(2, 1, " + who + ")", x -> x.holds(2, 1, who), BAD);
        }
        Edge.no("holds(0, 0, 7) of a FREE one", x -> x.holds(0, 0, 7), NOT);
        Edge.no("holds(0, 2, 7) without a RULE", x -> x.holds(0, 2, 7), NOT);
        Edge.no("holds(1, 1, -1)", x -> x.holds(1, 1, -1), NOT);
        Edge.no("holds(1, 2, -1) without a RULE", x -> x.holds(1, 2, -1), NOT);
        Edge.no("holds(2, 1, -1)", x -> x.holds(2, 1, -1), NOT);
        PlayerMoves x = Worlds.busy();
        x.rule(2, 0);
        Due.rule(x, 1, 0, "1=1;2=2;m<0;n<0");
        Edge.is("a is 0 but for USE 0", x.holds(2, 0, -1), NOT);
        Edge.is("the first LINE of two that do not hold", x.holds(1, 0, -1), 2);
        StringBuilder text = new StringBuilder("1=1");
        for (int i = 1; i < 39; i++) {
            text.append(";1=1");
        }
        Due.rule(x, 1, 0, text + ";0=1");
        Edge.is("the last LINE of 40", x.holds(1, 0, -1), 39);
    }

    private static void p31TryCap() {
        Edge.p(31, "How many CLUBS (SCHOOLS too) of a LEAGUE do not hold a RULE of USE 2 (of any LEAGUE), by number, in place of that in force. BAD.");
        int[] noCaps = {-1, 0, 1, 4, 15, 16, MAX, MIN};
        for (int rule : noCaps) {
            Edge.no("tryCap(" + rule + ", 0)", x -> x.tryCap(rule, 0), BAD);
        }
        int[] leagues = {-1, 4, MAX, MIN};
        for (int league : leagues) {
            Edge.no("tryCap(2, " + league + ")", x -> x.tryCap(2, league), BAD);
        }
        // club 0 has CAP 100, 1 has 274, SCHOOL 2 has 0
        int[][] due = {{2, 0, 0}, {2, 1, 0}, {2, 2, 0}, {2, 3, 0}, {3, 1, 0}, {3, 2, 0}};
        for (int[] w : due) {
            Edge.no("tryCap(" + w[0] + ", " + w[1] + ")", x -> x.tryCap(w[0], w[1]), w[2]);
        }
        PlayerMoves x = Worlds.busy();
        x.rule(30, 0);
        Due.rule(x, 32, 2999, "c<100");
        Due.rule(x, 2, 0, "c<101&l<9");
        x.club(5, 2, 5);
        x.club(7, 0, 5);
        Edge.is("rules", x.count(5), 7);
        Edge.is("of LEAGUE 0: club 0", x.tryCap(5, 0), 1);
        Edge.is("of LEAGUE 1: club 1", x.tryCap(5, 1), 1);
        Edge.is("of LEAGUE 2: none", x.tryCap(5, 2), 0);
        Edge.is("of LEAGUE 3: none there", x.tryCap(5, 3), 0);
        Edge.is("just enough", x.tryCap(6, 0), 0);
        Due.rule(x, 22, 0, "c>0");
        Edge.is("SCHOOLS too", x.tryCap(7, 2), 2);
        Edge.is("SCHOOLS too", x.tryCap(7, 0), 1);
        Edge.is("that in force stays", x.holds(2, 0, -1), NOT);
        Edge.is("that in force stays", x.inForce(2, 10, 10), 6);
        PlayerMoves y = Worlds.fresh();
        y.club(5, 3, 9);
        for (int i = 0; i < 16; i++) {
            Due.rule(y, 32, 0, i == 0 || i == 15 ? "m<9" : "m=9");
        }
        Edge.is("the first RULE", y.tryCap(0, 3), 1);
        Edge.is("the second RULE", y.tryCap(1, 3), 0);
        Edge.is("the last RULE", y.tryCap(15, 3), 1);
        Edge.is("one behind the last RULE", y.tryCap(16, 3), BAD);
    }

    private static void t4HomeGrown() {
        Edge.t(4, "HOME GROWN: TAUGHT for 900 days or more by CLUBS of one LEAGUE, that of the CLUB.");
        int[] days = {898, 899, 900, 901};
        for (int n : days) {
            PlayerMoves x = Worlds.fresh();
            x.club(5, 0, 0);
            x.club(7, 0, 0);
            x.club(5, 1, 0);
            x.player(2, -8000, 0, -1);
            x.past(3, 0, -4400, -4400 + n - 451);
            x.past(3, 1, -4400 + n - 450, -4400 + n - 1);
            x.past(3, 2, -3000, -1401);
            x.sign(3, 0, 2999, 0);
            Edge.is("taught by both: " + n, x.taught(3, 0) + x.taught(3, 1), n);
            Edge.is("HOME GROWN with " + n, x.squad(0, 1), n >= 900 ? 1 : 0);
            Edge.is("not held", x.squad(1, 1), 0);
            x.window(1, 0, 0);
            x.term(7, 0);
            x.lend(3, 2);
            Edge.is("by a CLUB of the other LEAGUE: " + x.taught(3, 2), x.squad(2, 1), 1);
            Edge.is("the lender's HOME GROWN ones", x.squad(0, 1), 0);
            x.days(1);
            Edge.is("back: the lender's HOME GROWN ones", x.squad(0, 1), n >= 900 ? 1 : 0);
        }
        for (int league = 0; league < 4; league++) {
            PlayerMoves x = Worlds.fresh();
            x.club(5, league, 0);
            x.player(2, -8000, 0, -1);
            x.past(1, 0, -4400, -3501);
            x.past(1, 0, 0, 0);
            Edge.is("of LEAGUE " + league, x.squad(0, 1), 1);
        }
        Edge.t(4, "SQUAD of a CLUB: PLAYERS whom it HOLDS TODAY.");
        PlayerMoves x = Worlds.busy();
        Edge.is("club 0 HOLDS a lent one and its own", x.squad(0, 0), 2);
        Due.until(x, 51);
        Edge.is("behind the LOAN", x.squad(0, 0), 1);
        Edge.is("the OWNER HOLDS him again", x.squad(1, 0), 2);
        Due.until(x, 800);
        Edge.is("on 5's till", x.squad(1, 0), 2);
        x.days(1);
        Edge.is("behind 5's till", x.squad(1, 0), 1);
    }

    private static void t4Cap() {
        Edge.t(4, "CAP of a CLUB in a YEAR: WAGES of all whose OWNER it is (TODAY) and, of all SALES that stand by which it bought, what is SPREAD to that YEAR.");
        PlayerMoves x = Worlds.market();
        Edge.is("WAGES of two", x.squad(0, 4), 30);
        Worlds.terms(x, 10, 2999, 7, 3);
        x.sell(5, 1);
        Edge.is("the seller's CAP", x.squad(0, 4), 10);
        Edge.is("the buyer's CAP", x.squad(1, 4), 7 + 4);
        x.lend(4, 1);
        Edge.is("a LOAN's FEE is in no CAP", x.squad(1, 4), 11);
        Edge.is("a lent one's WAGE is his OWNER's", x.squad(0, 4), 10);
        x.undo(0);
        Edge.is("an UNDONE SALE is in no CAP", x.squad(1, 4), 0);
        x.sell(5, 1);
        x.sell(5, 2);
        Edge.is("sold on in the same YEAR", x.squad(1, 4), 4);
        Edge.is("the next buyer", x.squad(2, 4), 11);
        x.undo(3);
        Edge.is("back: WAGE and what is SPREAD", x.squad(1, 4), 11);
        x.past(6, 1, 0, 0);
        Edge.is("a PAST SPAN has no WAGE", x.squad(1, 4), 11);
        Due.until(x, 299);
        Edge.is("the last DAY of the YEAR", x.squad(1, 4), 11);
        x.days(1);
        Edge.is("the second YEAR", x.squad(1, 4), 10);
        Due.until(x, 900);
        Edge.is("behind the third YEAR", x.squad(1, 4), 7);
        PlayerMoves y = Worlds.fresh();
        y.club(5, 0, 0);
        y.club(5, 0, 1000);
        y.player(2, 0, 0, -1);
        y.window(0, 0, 2999);
        y.sign(2, 0, 2999, 0);
        Due.until(y, 2999);
        Worlds.terms(y, 1000, 2999, 99999, 5);
        y.sell(2, 1);
        Edge.is("SPREAD from the last YEAR on", y.squad(1, 4), 99999 + 200);
    }

    private static void t4ThreeYears() {
        Edge.t(4, "THREE YEARS: that YEAR and the two YEARS that went ahead (0 at least): all CAPS (WAGES as of TODAY in each) against all INCOME.");
        PlayerMoves x = Worlds.market();
        for (int year = 0; year < 10; year++) {
            x.income(0, year, 1 << 2 * year);
        }
        for (int year = 0; year < 10; year++) {
            int income = 0;
            for (int y = Math.max(0, year - 2); y <= year; y++) {
                income += 1 << 2 * y;
            }
            int years = Math.min(3, year + 1);
            Due.until(x, 300 * year);
            Edge.is("INCOME on the first DAY of " + year, x.squad(0, 6), income);
            Edge.is("CAPS on the first DAY of " + year, x.squad(0, 5), 30 * years);
            Due.until(x, 300 * year + 299);
            Edge.is("INCOME on the last DAY of " + year, x.squad(0, 6), income);
            Edge.is("CAPS on the last DAY of " + year, x.squad(0, 5), 30 * years);
        }
        PlayerMoves y = Worlds.market();
        Worlds.terms(y, 100, 2999, 5, 4);
        Due.until(y, 300);
        y.sell(5, 1);
        int[] caps = {5 + 5 + 25, 15 + 50, 15 + 75, 15 + 75, 15 + 50, 15 + 25, 15, 15, 15};
        for (int year = 1; year < 10; year++) {
            Due.until(y, 300 * year);
            Edge.is("CAPS with what is SPREAD in " + year, y.squad(1, 5), caps[year - 1]);
        }
    }

    private static void t5InForce() {
        Edge.t(5, "made on a DAY, for DAYS from one on; in force on DAY d AS KNOWN on DAY k: of LEAGUE and USE those made on DAY k or ahead, from DAY d or an earlier"
            + " one: the one made last. Without any it holds.");
        PlayerMoves x = Worlds.fresh();
        x.club(5, 0, 0);
        Edge.is("without any it holds", x.holds(1, 0, -1), NOT);
        x.days(5);
        Due.rule(x, 1, 8, "0=1");
        Due.rule(x, 1, 10, "1=1;0=1");
        x.days(2);
        Due.rule(x, 1, 6, "1=1;1=1;0=1");
        int[][] due = {{5, 2999, NOT}, {6, 7, 2}, {6, 6, NOT}, {7, 7, 2}, {8, 6, 0}, {8, 7, 2}, {9, 6, 0}, {10, 6, 1}, {10, 5, 1}, {10, 4, NOT}, {10, 7, 2},
            {2999, 2999, 2}, {2999, 0, NOT}, {0, 2999, NOT}};
        for (int[] w : due) {
            Edge.is("inForce(1, " + w[0] + ", " + w[1] + ")", x.inForce(1, w[0], w[1]), w[2]);
        }
        Edge.is("TODAY AS KNOWN TODAY", x.holds(1, 0, -1), 2);
        Due.rule(x, 1, 8, "1=1;0=1");
        Edge.is("one for later DAYS", x.holds(1, 0, -1), 2);
        x.days(1);
        Edge.is("from its DAY on", x.holds(1, 0, -1), 1);
        Due.rule(x, 1, 8, "1=1");
        Edge.is("made last on the same DAY", x.holds(1, 0, -1), NOT);
        Edge.is("of the same DAY the one made last", x.inForce(1, 8, 8), 4);
    }
}
