/** The edges of section 3 of the Terms: WHY in its order, what is PAID, MATCHES, UNDOING. */
final class EdgesPaid {
    private static final int FULL = PlayerMoves.FULL, NOT = PlayerMoves.NOT;

    private EdgesPaid() {
    }

    static void all() {
        t3Moves();
        t3WhyInOrder(0);
        t3WhyInOrder(1);
        t3WhyLent();
        t3WhyPapers();
        t3WhyCoins();
        t3Kept();
        t3KeptTo();
        t3Shares();
        t3SharesAhead();
        t3Agent();
        t3LoanPaid();
        t3Bonus();
        t3BonusOnce();
        t3Option();
        t3Undone();
        t3Hangs();
    }

    private static void coins(String when, PlayerMoves x, int a, int b, int c) {
        Edge.is(when + ": COINS of 0", x.ofBody(0, 2), a);
        Edge.is(when + ": COINS of 1", x.ofBody(1, 2), b);
        Edge.is(when + ": COINS of 2", x.ofBody(2, 2), c);
    }

    private static void t3Moves() {
        Edge.t(3, "MOVES 0 .. 199, as they are told");
        PlayerMoves x = Worlds.market();
        for (int i = 0; i < 200; i++) {
            Edge.is("MOVE " + i, i % 2 == 0 ? x.sell(4, 1) : x.sell(4, 0), i);
        }
        Edge.is("MOVE 200, a SALE", x.sell(4, 1), FULL);
        Edge.is("MOVE 200, a LOAN", x.lend(5, 1), FULL);
        Edge.is("ofMove(199, 2)", x.ofMove(199, 2), 0);
        Edge.is("the last one's day", x.ofMove(199, 4), 0);
    }

    /** Player 4 of club 0 is to come to 2 of LEAGUE 1: lent up to DAY 5, OPEN from 10 on, PAPERS by 5, barred by RULES 0 and 1, a coin too dear. */
    private static PlayerMoves barred() {
        PlayerMoves x = new PlayerMoves();
        x.club(5, 0, 1000);
        x.club(5, 0, 1000);
        x.club(5, 1, 1000);
        x.body(6);
        x.player(2, -9000, 50, 3);
        x.window(0, 0, 2999);
        x.window(1, 10, 20);
        x.sign(4, 0, 2999, 10);
        Worlds.terms(x, 0, 2999, 0, 1, 0, 0, 1, 5, 0);
        x.lend(4, 1);
        x.term(0, 1001);
        x.papers(1, 5);
        x.minute(6);
        Due.rule(x, 10, 0, "1=2");
        Due.rule(x, 11, 0, "1=2");
        return x;
    }

    private static void t3WhyInOrder(int loan) {
        Edge.t(3, "WHY a MOVE may not be, the first of: 1 the buyer is the OWNER, or the SPAN that counts TODAY is a LOAN (of a SALE: to another one than the"
            + " buyer); 2 the LEAGUE of the buyer is not OPEN; 3 PAPERS are late: MINUTE is above that by which they must be in (told of each LEAGUE; of the"
            + " buyer's LEAGUE; 1439 at first); 4 by RULE 0 he may not (section 5); 5 the buyer's COINS are less than FEE; 6 by RULE 1 the buyer's squad"
            + " would not hold.");
        String of = loan == 0 ? " of a SALE" : " of a LOAN";
        PlayerMoves x = barred();
        Edge.is("1 to 6" + of, x.why(4, 2, loan), 1);
        x.days(5);
        x.minute(6);
        Edge.is("1 to 6 on the LOAN's last DAY" + of, x.why(4, 2, loan), 1);
        x.days(1);
        x.minute(6);
        Edge.is("2 to 6" + of, x.why(4, 2, loan), 2);
        x.days(3);
        x.minute(6);
        Edge.is("2 to 6 on the DAY ahead of the WINDOW" + of, x.why(4, 2, loan), 2);
        x.days(1);
        x.minute(6);
        Edge.is("3 to 6 on the WINDOW's first DAY" + of, x.why(4, 2, loan), 3);
        x.days(1);
        x.minute(5);
        Edge.is("4 to 6 at the last MINUTE" + of, x.why(4, 2, loan), 4);
        Due.rule(x, 10, 0, "1=1;k=2");
        Edge.is("5 and 6" + of, x.why(4, 2, loan), 5);
        x.term(0, 1000);
        Edge.is("6" + of, x.why(4, 2, loan), 6);
        Due.rule(x, 11, 0, "n=1");
        Edge.is("none" + of, x.why(4, 2, loan), 0);
        x.days(9);
        Edge.is("none on the WINDOW's last DAY" + of, x.why(4, 2, loan), 0);
        x.days(1);
        Edge.is("2 behind the WINDOW" + of, x.why(4, 2, loan), 2);
        Edge.is("1 of the OWNER ahead of all" + of, x.why(4, 0, loan), 1);
    }

    private static void t3WhyLent() {
        Edge.t(3, "1 the buyer is the OWNER, or the SPAN that counts TODAY is a LOAN (of a SALE: to another one than the buyer)");
        PlayerMoves x = Worlds.market();
        x.term(7, 3);
        x.lend(4, 1);
        int[] days = {0, 3};
        for (int day : days) {
            Due.until(x, day);
            Edge.is("SALE to the borrower on " + day, x.why(4, 1, 0), 0);
            Edge.is("SALE to another one on " + day, x.why(4, 2, 0), 1);
            Edge.is("SALE to the OWNER on " + day, x.why(4, 0, 0), 1);
            Edge.is("LOAN to the borrower on " + day, x.why(4, 1, 1), 1);
            Edge.is("LOAN to another one on " + day, x.why(4, 2, 1), 1);
            Edge.is("LOAN to the OWNER on " + day, x.why(4, 0, 1), 1);
        }
        x.days(1);
        Edge.is("SALE to another one behind the LOAN", x.why(4, 2, 0), 0);
        Edge.is("LOAN to the borrower behind the LOAN", x.why(4, 1, 1), 0);
        Edge.is("SALE to the OWNER behind the LOAN", x.why(4, 0, 0), 1);
        PlayerMoves y = Worlds.market();
        y.lend(4, 1);
        y.sell(4, 1);
        Edge.is("the LOAN counts no more: SALE to another one", y.why(4, 2, 0), 0);
        Edge.is("the LOAN counts no more: LOAN to another one", y.why(4, 2, 1), 0);
        y.undo(1);
        Edge.is("the LOAN counts again", y.why(4, 2, 0), 1);
        y.undo(0);
        Edge.is("the LOAN is UNDONE", y.why(4, 2, 0), 0);
        PlayerMoves z = Worlds.market();
        z.past(4, 1, 0, 0);
        Edge.is("a PAST SPAN that counts TODAY is no LOAN", z.why(4, 2, 0), 0);
    }

    private static void t3WhyPapers() {
        Edge.t(3, "3 PAPERS are late: MINUTE is above that by which they must be in (told of each LEAGUE; of the buyer's LEAGUE; 1439 at first)");
        PlayerMoves x = Worlds.market();
        x.minute(1439);
        Edge.is("1439 at first", x.why(4, 2, 0), 0);
        x.days(1);
        x.papers(1, 0);
        Edge.is("by 0 at 0", x.why(4, 2, 0), 0);
        x.minute(1);
        Edge.is("by 0 at 1", x.why(4, 2, 0), 3);
        Edge.is("by 0 at 1 of a LOAN", x.why(4, 2, 1), 3);
        Edge.is("of another LEAGUE", x.why(4, 1, 0), 0);
        Edge.is("sell(4, 2)", x.sell(4, 2), -23);
        Edge.is("lend(4, 2)", x.lend(4, 2), -23);
        x.papers(1, 1);
        Edge.is("by 1 at 1", x.why(4, 2, 0), 0);
        x.papers(0, 0);
        Edge.is("the seller's LEAGUE is not asked", x.why(4, 2, 0), 0);
        x.days(1);
        Edge.is("on the next DAY", x.why(4, 1, 0), 0);
    }

    private static void t3WhyCoins() {
        Edge.t(3, "5 the buyer's COINS are less than FEE");
        PlayerMoves x = Worlds.market();
        x.club(5, 0, 0);
        Edge.is("nothing for nothing", x.why(4, 7, 0), 0);
        x.term(0, 1);
        Edge.is("1 for nothing", x.why(4, 7, 0), 5);
        x.term(0, 1000);
        Edge.is("all COINS", x.why(4, 1, 0), 0);
        Edge.is("all COINS of a LOAN", x.why(4, 1, 1), 0);
        x.term(0, 1001);
        Edge.is("a coin more", x.why(4, 1, 0), 5);
        Edge.is("a coin more of a LOAN", x.why(4, 1, 1), 5);
        x.term(0, 1000);
        Edge.is("the AGENT is not asked", x.sell(4, 1), 0);
        Edge.is("COINS below 0", x.ofBody(1, 2), -30);
        x.term(0, 0);
        Edge.is("COINS below 0 are less than 0", x.why(5, 1, 0), 5);
        Edge.is("COINS below 0 are less than 0 of a LOAN", x.lend(5, 1), -25);
    }

    private static void t3Kept() {
        Edge.t(3, "KEPT (0 .. 50 hundredths of what the next SALE's FEE is above this one's, up; it goes to who sells now)");
        int[][] cases = {{0, 100, 900, 0}, {50, 100, 101, 1}, {50, 100, 102, 1}, {50, 100, 103, 2}, {1, 100, 101, 1}, {1, 100, 200, 1}, {1, 100, 201, 2},
            {50, 100, 100, 0}, {50, 100, 99, 0}, {50, 100, 0, 0}, {33, 0, 3, 1}, {33, 0, 100, 33}, {33, 0, 101, 34}, {50, 0, 1000, 500}};
        for (int[] w : cases) {
            PlayerMoves x = Worlds.market();
            x.term(0, w[1]);
            x.term(4, w[0]);
            x.sell(5, 1);
            x.term(0, w[2]);
            x.term(4, 50);
            Edge.is("the next SALE", x.sell(5, 2), 1);
            String when = w[0] + " hundredths, sold for " + w[1] + ", then " + w[2];
            Edge.is("KEPT of the first: " + when, x.ofMove(0, 7), 0);
            Edge.is("KEPT of the next: " + when, x.ofMove(1, 7), w[3]);
            coins(when, x, 1000 + w[1] + w[3], 1000 - w[1] + w[2] - w[3], 1000 - w[2]);
        }
        PlayerMoves x = Worlds.fresh();
        x.club(5, 0, 999999);
        x.club(5, 0, 999999);
        x.club(5, 0, 999999);
        x.player(2, 0, 0, -1);
        x.sign(3, 0, 2999, 0);
        x.window(0, 0, 0);
        Worlds.terms(x, 0, 2999, 0, 1, 50);
        x.sell(3, 1);
        x.term(0, 999999);
        x.sell(3, 2);
        Edge.is("50 hundredths of 999999", x.ofMove(1, 7), 500000);
    }

    private static void t3KeptTo() {
        Edge.t(3, "KEPT of the SALE that stands by which the seller became OWNER (none, if by sign()), to that one's seller");
        PlayerMoves x = Worlds.market();
        Worlds.terms(x, 100, 5, 0, 1, 50);
        x.sell(5, 1);
        x.days(6);
        x.term(1, 2999);
        x.sign(5, 1, 2999, 0);
        x.term(0, 300);
        x.sell(5, 2);
        Edge.is("by sign(), though it bought him once", x.ofMove(1, 7), 0);
        PlayerMoves y = Worlds.market();
        Worlds.terms(y, 100, 2999, 0, 1, 10);
        y.sell(5, 1);
        y.term(4, 50);
        y.term(0, 200);
        y.sell(5, 2);
        Edge.is("10 hundredths of 100", y.ofMove(1, 7), 10);
        y.undo(1);
        coins("UNDONE", y, 1100, 900, 1000);
        y.term(0, 400);
        y.sell(5, 2);
        Edge.is("the SALE that stands is the first", y.ofMove(2, 7), 30);
        y.term(0, 600);
        y.sell(5, 0);
        Edge.is("50 hundredths of 200, to the seller of the last", y.ofMove(3, 7), 100);
        coins("sold back", y, 1100 + 30 - 600, 900 + 400 - 30 + 100, 1000 - 400 + 500);
        PlayerMoves z = Worlds.market();
        Worlds.terms(z, 100, 2999, 0, 1, 50);
        z.sell(5, 1);
        z.term(0, 300);
        z.sell(5, 0);
        Edge.is("KEPT to the buyer himself", z.ofMove(1, 7), 100);
        coins("KEPT to the buyer himself", z, 1000 + 100 - 300 + 100, 1000 - 100 + 200, 1000);
    }

    /** PLAYER 6 was taught so many days by clubs 0, 1, 2, and is owned by the last one. */
    private static PlayerMoves taughtBy(int a, int b, int c, int owner) {
        PlayerMoves x = Worlds.market();
        x.days(1);
        int[] days = {a, b, c};
        int from = -2400;
        for (int club = 0; club < 3; club++) {
            if (days[club] > 0) {
                x.past(6, club, from, from + days[club] - 1);
                from += days[club];
            }
        }
        x.sign(6, owner, 2999, 0);
        return x;
    }

    private static void t3Shares() {
        Edge.t(3, "SHARES of teaching: 5 hundredths of FEE (up) in all to those who TAUGHT him (the buyer, too; as they are ahead of this SALE), but the seller:"
            + " each gets the whole part by days; what is left goes one by one to those with the greatest rests, of like ones the lesser number (nobody but the"
            + " seller: nothing is paid).");
        // FEE, days by 0 and 2 (3 are the seller's), SHARES in all, of 0, of 2
        int[][] cases = {{0, 5, 2, 0, 0, 0}, {1, 5, 2, 1, 1, 0}, {1, 2, 5, 1, 0, 1}, {20, 5, 2, 1, 1, 0}, {21, 5, 2, 2, 1, 1}, {100, 5, 2, 5, 4, 1},
            {101, 5, 2, 6, 4, 2}, {20, 0, 3, 1, 0, 1}, {20, 3, 0, 1, 1, 0}, {60, 4, 4, 3, 2, 1}, {1000, 300, 300, 50, 25, 25}};
        for (int[] w : cases) {
            PlayerMoves x = taughtBy(w[1], 3, w[2], 1);
            x.term(0, w[0]);
            Edge.is("sell(6, 2) for " + w[0], x.sell(6, 2), 0);
            Edge.is("SHARES of " + w[0], x.ofMove(0, 8), w[3]);
            Edge.is("the first one's part of " + w[0], x.share(0, 0), w[4]);
            Edge.is("the seller's part of " + w[0], x.share(0, 1), 0);
            Edge.is("the buyer's part of " + w[0], x.share(0, 2), w[5]);
            coins("SHARES of " + w[0], x, 1000 + w[4], 1000 + w[0] - w[3], 1000 - w[0] + w[5]);
        }
        PlayerMoves x = taughtBy(7, 7, 0, 2);
        x.term(0, 20);
        x.sell(6, 1);
        Edge.is("of like rests the lesser number", x.share(0, 0), 1);
        Edge.is("of like rests the lesser number", x.share(0, 1), 0);
        PlayerMoves y = taughtBy(0, 9, 0, 1);
        y.term(0, 1000);
        y.sell(6, 2);
        Edge.is("nobody but the seller: nothing is paid", y.ofMove(0, 8), 0);
        coins("nobody but the seller", y, 1000, 2000, 0);
        PlayerMoves z = taughtBy(0, 0, 9, 1);
        z.term(0, 1000);
        z.sell(6, 2);
        Edge.is("the buyer alone", z.share(0, 2), 50);
        coins("the buyer alone", z, 1000, 1950, 50);
    }

    private static void t3SharesAhead() {
        Edge.t(3, "(the buyer, too; as they are ahead of this SALE)");
        PlayerMoves x = Worlds.market();
        x.sign(6, 0, 2999, 0);
        x.term(0, 100);
        x.sell(6, 1);
        Edge.is("TODAY was the seller's ahead of this SALE", x.ofMove(0, 8), 0);
        x.sell(6, 2);
        Edge.is("TODAY was the second seller's ahead of this SALE", x.ofMove(1, 8), 0);
        x.days(1);
        x.sell(6, 0);
        Edge.is("TODAY and the day ahead were the seller's", x.ofMove(2, 8), 0);
        x.days(1);
        x.sell(6, 1);
        Edge.is("days 0 and 1 are 2's and 0's", x.ofMove(3, 8), 5);
        Edge.is("day 0 is 2's", x.share(3, 2), 5);
        Edge.is("days 1 and 2 are the seller's", x.share(3, 0), 0);
    }

    private static void t3Agent() {
        Edge.t(3, "The AGENT has 3 hundredths of FEE (up), from the buyer, ahead (COINS may be below 0 by that).");
        int[][] cases = {{0, 0}, {1, 1}, {33, 1}, {34, 2}, {66, 2}, {67, 3}, {100, 3}, {101, 4}, {1000, 30}};
        for (int[] w : cases) {
            PlayerMoves x = Worlds.market();
            x.term(0, w[0]);
            x.sell(4, 1);
            Edge.is("the AGENT's of " + w[0], x.ofMove(0, 9), w[1]);
            coins("the AGENT's of " + w[0], x, 1000 + w[0], 1000 - w[0] - w[1], 1000);
            PlayerMoves y = Worlds.market();
            y.term(0, w[0]);
            y.sell(5, 1);
            Edge.is("without an AGENT of " + w[0], y.ofMove(0, 9), 0);
            coins("without an AGENT of " + w[0], y, 1000 + w[0], 1000 - w[0], 1000);
        }
    }

    private static void t3LoanPaid() {
        Edge.t(3, "FEE goes from the buyer to the seller (of a LOAN all of it, and nothing else is PAID)");
        PlayerMoves x = taughtBy(5, 5, 5, 0);
        Worlds.terms(x, 200, 2999, 0, 1, 50, 70, 1);
        x.sell(4, 1);
        coins("sold", x, 1200, 794, 1000);
        x.term(0, 300);
        x.lend(4, 2);
        coins("lent on", x, 1200, 1094, 700);
        x.term(0, 100);
        x.lend(6, 2);
        coins("lent", x, 1300, 1094, 600);
        for (int what = 7; what <= 10; what++) {
            Edge.is("ofMove(1, " + what + ") of a LOAN", x.ofMove(1, what), 0);
            Edge.is("ofMove(2, " + what + ") of a LOAN", x.ofMove(2, what), 0);
        }
        Edge.is("no BONUS of a LOAN", x.play(6, 60), 60);
        coins("no BONUS of a LOAN", x, 1300, 1094, 600);
    }

    private static void t3Bonus() {
        Edge.t(3, "MATCHES of a PLAYER for its HOLDER are told TODAY (1 .. 60 at a time). A BONUS of a SALE that stands is PAID by the buyer to the seller once, by"
            + " the telling by which MATCHES told for that buyer since that SALE are enough (COINS may fall below 0).");
        int[] needed = {1, 2, 59, 60, 61, 120, 999};
        for (int n : needed) {
            PlayerMoves x = Worlds.market();
            x.play(5, 60);
            Worlds.terms(x, 0, 2999, 0, 1, 0, 1001, n);
            x.sell(5, 1);
            int told = 0;
            while (told + 60 < n) {
                x.play(5, 60);
                told += 60;
            }
            if (n - told > 1) {
                x.play(5, n - told - 1);
                told = n - 1;
            }
            Edge.is("one MATCH ahead of " + n, x.ofMove(0, 10), 0);
            coins("one MATCH ahead of " + n, x, 1000, 1000, 1000);
            Edge.is("all MATCHES for the buyer", x.play(5, n - told), n);
            Edge.is("with " + n, x.ofMove(0, 10), 1001);
            coins("COINS below 0 with " + n, x, 2001, -1, 1000);
        }
        PlayerMoves x = Worlds.market();
        Worlds.terms(x, 0, 2999, 0, 1, 0, 9, 10);
        x.sell(5, 1);
        x.term(5, 8);
        x.term(6, 1);
        x.play(5, 60);
        Edge.is("the terms of its own SALE; more than enough", x.ofMove(0, 10), 9);
        PlayerMoves z = Worlds.market();
        Worlds.terms(z, 0, 2999, 0, 1, 0, 1, 1);
        z.sell(5, 1);
        z.play(5, 1);
        Edge.is("BONUS 1", z.ofMove(0, 10), 1);
        coins("BONUS 1", z, 1001, 999, 1000);
        PlayerMoves y = Worlds.market();
        Worlds.terms(y, 0, 2999, 0, 1, 0, 0, 1);
        y.sell(5, 1);
        y.play(5, 60);
        Edge.is("BONUS 0: none", y.ofMove(0, 10), 0);
        coins("BONUS 0: none", y, 1000, 1000, 1000);
    }

    private static void t3BonusOnce() {
        Edge.t(3, "A BONUS of a SALE that stands is PAID by the buyer to the seller once");
        PlayerMoves x = Worlds.market();
        Worlds.terms(x, 0, 2999, 0, 1, 0, 7, 5);
        x.sell(5, 1);
        x.play(5, 5);
        coins("PAID", x, 1007, 993, 1000);
        x.play(5, 5);
        x.play(5, 60);
        coins("once", x, 1007, 993, 1000);
        x.sell(5, 2);
        x.play(5, 4);
        coins("not the next one's yet", x, 1007, 993, 1000);
        x.undo(1);
        x.play(5, 60);
        coins("an UNDONE one's never", x, 1007, 993, 1000);
        x.sell(5, 2);
        x.play(5, 1);
        coins("told since that SALE alone", x, 1007, 993, 1000);
        x.play(5, 4);
        coins("the later SALE's", x, 1007, 1000, 993);
        x.lend(5, 1);
        x.play(5, 60);
        coins("for the first buyer, PAID already", x, 1007, 1000, 993);
        PlayerMoves y = Worlds.market();
        Worlds.terms(y, 0, 2999, 0, 1, 0, 7, 5);
        y.sell(5, 1);
        y.sell(4, 1);
        Edge.is("five of another PLAYER of the buyer", y.play(4, 5), 5);
        Edge.is("his own SALE's BONUS", y.ofMove(1, 10), 7);
        Edge.is("not the other's", y.ofMove(0, 10), 0);
    }

    private static void t3Option() {
        Edge.t(3, "OPTION (0: none; the price at which it may become a SALE while it goes on, or on the DAY behind)");
        int[] days = {0, 1, 19, 20, 21, 22, 23, 300};
        for (int day : days) {
            PlayerMoves x = Worlds.market();
            x.term(7, 20);
            x.term(8, 10);
            x.lend(5, 1);
            Due.until(x, day);
            Edge.is("option(0) on " + day, x.option(0), day <= 21 ? 1 : NOT);
        }
        PlayerMoves x = Worlds.market();
        x.term(7, 2999);
        x.lend(5, 1);
        Edge.is("OPTION 0", x.option(0), NOT);
        PlayerMoves y = Worlds.market();
        y.term(8, 10);
        y.lend(5, 1);
        Due.until(y, 2999);
        Edge.is("on the last DAY of all", y.option(0), 1);
    }

    private static void t3Undone() {
        Edge.t(3, "UNDONE by a court TODAY: a MOVE's money goes back (FEE, KEPT, SHARES, each as it was paid; AGENTS and BONUSES keep; COINS may fall below 0)");
        PlayerMoves x = taughtBy(4, 0, 4, 1);
        Worlds.terms(x, 100, 2999, 5, 2, 50, 40, 1);
        x.player(2, -6000, 0, 3);
        x.past(7, 0, -2400, -2397);
        x.past(7, 2, -2396, -2393);
        x.sign(7, 0, 2999, 0);
        x.sell(7, 1);
        coins("first", x, 1000 + 95, 1000 - 103, 1000 + 5);
        x.term(0, 300);
        x.sell(7, 2);
        Edge.is("KEPT", x.ofMove(1, 7), 100);
        Edge.is("SHARES", x.ofMove(1, 8), 15);
        coins("second", x, 1095 + 100 + 8, 897 + 300 - 100 - 15, 1005 - 309 + 7);
        x.play(7, 1);
        coins("BONUS", x, 1203, 1082 + 40, 703 - 40);
        Edge.is("undo(1)", x.undo(1), 1);
        coins("UNDONE", x, 1203 - 108, 1122 - 185, 663 + 300 - 7);
        Edge.is("the AGENT keeps", x.ofMove(1, 9), 9);
        Edge.is("the BONUS is kept", x.ofMove(1, 10), 40);
        Edge.is("undo(0)", x.undo(0), 1);
        coins("both UNDONE", x, 1095 - 95, 937 + 100, 956 - 5);
        PlayerMoves z = Worlds.market();
        z.term(0, 1000);
        z.sell(5, 1);
        z.club(5, 0, 0);
        z.player(2, 0, 0, -1);
        z.sign(8, 2, 2999, 0);
        z.term(0, 1500);
        Edge.is("sell(8, 0)", z.sell(8, 0), 1);
        Edge.is("undo(0)", z.undo(0), 1);
        coins("COINS fall below 0", z, 1000 + 1000 - 1500 - 1000, 1000, 2500);
    }

    private static void t3Hangs() {
        Edge.t(3, "if no later MOVE (by number) of that PLAYER stands; else it HANGS: told: the first such.");
        PlayerMoves x = Worlds.market();
        x.sell(5, 1);
        x.sell(4, 1);
        x.lend(5, 2);
        x.sell(5, 2);
        Edge.is("a LOAN is a later MOVE", x.undo(0), -102);
        Edge.is("the last one", x.undo(3), 1);
        Edge.is("UNDONE ones do not stand", x.undo(2), 1);
        Edge.is("none stands", x.undo(0), 1);
        Edge.is("of another PLAYER", x.undo(1), 1);
        Edge.is("OWNER", x.ofBody(5, 5), 0);
    }
}
