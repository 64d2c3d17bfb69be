/** Objects on which a lot was made already, always in the same way. */
final class Worlds {
    private Worlds() {
    }

    /** A call that makes a world must not be refused. */
    private static void must(long answer) {
        if (answer < 0) {
            Due.is("a call that makes a world", answer, 0);
        }
    }

    static PlayerMoves fresh() {
        return new PlayerMoves();
    }

    /**
     * DAY 10, MINUTE 30. Clubs 0, 1 of LEAGUES 0, 1 (OPEN for ever), SCHOOL 2 of LEAGUE 2 (never OPEN; LEAGUE 3 has six WINDOWS).
     * AGENT 3; PLAYER 4 (agent 3), KEEPER 5, YOUTH 6 (agent 3), PLAYER 7 (FREE, his papers LACK); BODY 8, PERSON 9.
     * MOVES: 0 sold 4 from club 0 to 1; 1 lent 5 from 1 to 0 till DAY 50 with an OPTION; 2 sold 6 from 0 to 1 and is UNDONE.
     * SHELVES: 0 shorts (two good threes from place 1 on, then a wrong one), 1 nothing, 2 KEEPER 5, 3 longs, 4 booleans, 5 shorts.
     */
    static PlayerMoves busy() {
        PlayerMoves x = new PlayerMoves();
        bodies(x);
        for (int i = 0; i < 6; i++) {
            must(x.window(3, 100 * i, 100 * i + 50));
        }
        must(x.window(0, 0, 2999));
        must(x.window(1, 0, 2999));
        shelves(x);
        must(x.past(4, 2, -2400, -1000));
        must(x.past(4, 1, -999, -1));
        must(x.past(5, 0, -3000, -2000));
        must(x.spans(7, 1, 0, 1));
        must(x.sign(4, 0, 900, 300));
        must(x.sign(5, 1, 800, 200));
        must(x.sign(6, 0, 2999, 100));
        must(x.income(0, 0, 5000));
        must(x.income(0, 9, 1));
        moves(x);
        rules(x);
        choices(x);
        must(x.papers(1, 700));
        must(x.minute(30));
        x.act(5, 3, 7);
        return x;
    }

    private static void bodies(PlayerMoves x) {
        must(x.club(5, 0, 5000));
        must(x.club(5, 1, 900));
        must(x.club(7, 2, 300));
        must(x.body(6));
        must(x.player(2, -6000, 50, 3));
        must(x.player(3, -7000, 40, -1));
        must(x.player(4, -4000, 60, 3));
        must(x.player(2, -5000, 70, -1));
        must(x.body(0));
        must(x.body(1));
    }

    private static void shelves(PlayerMoves x) {
        row(x, 0, 9, 0, -50, -40, 2, -30, 0, 3, -5, -5, 1, -9);
        must(x.keep(2, 5));
        must(x.row(3, 3, 4));
        for (int i = 0; i < 4; i++) {
            must(x.put(3, i, 5000000000L * (i + 1)));
        }
        must(x.row(4, 4, 2));
        must(x.put(4, 1, 9));
        row(x, 5, 7, 8, 9);
    }

    /** A ROW of shorts with these elements. */
    static void row(PlayerMoves x, int shelf, int... values) {
        must(x.row(shelf, 1, values.length));
        for (int i = 0; i < values.length; i++) {
            must(x.put(shelf, i, values[i]));
        }
    }

    /** The terms in their order, from FEE to OPTION. */
    static void terms(PlayerMoves x, int... values) {
        for (int what = 0; what < values.length; what++) {
            must(x.term(what, values[what]));
        }
    }

    private static void moves(PlayerMoves x) {
        terms(x, 100, 1200, 40, 3, 20, 30, 10, 50, 60);
        must(x.sell(4, 1));
        must(x.play(4, 3));
        must(x.days(5));
        must(x.lend(5, 0));
        must(x.sell(6, 1));
        must(x.undo(2));
        must(x.days(5));
    }

    private static void rules(PlayerMoves x) {
        must(Due.rule(x, 0, 0, "a<99;k<9"));
        must(Due.rule(x, 11, 5, "n<9"));
        must(Due.rule(x, 12, 0, "c<1000;m>0"));
        must(Due.rule(x, 12, 20, "c<999"));
        Due.feed(x, "a<1");
    }

    private static void choices(PlayerMoves x) {
        must(x.wish(2));
        must(x.wish(1));
        must(x.wish(0));
        must(x.rings());
        must(x.wish(2));
        must(x.wish(5));
        must(x.claim(1, 20));
        must(x.claim(0, 30));
        must(x.part(45));
        must(x.claim(2, 500));
        must(x.claim(2, 600));
        must(x.deal(4, 0, 10, -1));
        must(x.deal(5, 0, 20, 0));
        must(x.candidate(1011, 5));
        must(x.candidate(2002, 6));
    }

    /**
     * DAY 0. Clubs 0, 1 of LEAGUE 0 and 2 of LEAGUE 1, with 1000 COINS each, OPEN for ever; AGENT 3; PLAYER 4 (agent 3) and YOUTH 5, both of
     * club 0 up to DAY 2999; PLAYER 6, who is FREE. The terms: all till 2999, and nothing is paid.
     */
    static PlayerMoves market() {
        PlayerMoves x = new PlayerMoves();
        must(x.club(5, 0, 1000));
        must(x.club(5, 0, 1000));
        must(x.club(5, 1, 1000));
        must(x.body(6));
        must(x.player(2, -9000, 50, 3));
        must(x.player(4, -9000, 60, -1));
        must(x.player(2, -6000, 70, -1));
        must(x.window(0, 0, 2999));
        must(x.window(1, 0, 2999));
        must(x.sign(4, 0, 2999, 10));
        must(x.sign(5, 0, 2999, 20));
        terms(x, 0, 2999, 0, 1, 0, 0, 1, 2999, 0);
        return x;
    }

    /** A busy object with all 150 BODIES. */
    static PlayerMoves fullBodies() {
        PlayerMoves x = busy();
        for (int i = 10; i < 150; i++) {
            must(x.body(0));
        }
        return x;
    }

    /** A busy object with so many SPANS, those that came being of PLAYER 7. */
    static PlayerMoves spans(int n) {
        PlayerMoves x = busy();
        for (int i = 9; i < n; i++) {
            must(x.past(7, 0, -100, -99));
        }
        return x;
    }

    /** A busy object with all 600 SPANS. */
    static PlayerMoves fullSpans() {
        return spans(600);
    }

    /** A busy object with all 200 MOVES, those that came selling 6 to and fro for nothing. */
    static PlayerMoves fullMoves() {
        PlayerMoves x = busy();
        must(x.term(0, 0));
        for (int i = 3; i < 200; i++) {
            must(x.sell(6, i % 2));
        }
        must(x.term(0, 100));
        return x;
    }

    /** A busy object with all 16 RULES, and three bytes on THE TAPE. */
    static PlayerMoves fullRules() {
        PlayerMoves x = busy();
        must(x.rule(20, 0));
        for (int i = 5; i < 16; i++) {
            must(Due.rule(x, 32, 0, "a=0"));
        }
        Due.feed(x, "a<1");
        return x;
    }

    /** A busy object with so many bytes on THE TAPE. */
    static PlayerMoves tape(int n) {
        PlayerMoves x = busy();
        for (int i = 3; i < n; i++) {
            must(x.feed(1, '1'));
        }
        return x;
    }

    /** A busy object with all 6 DEALS, 8 WISHES, 10 candidates, 12 claims. */
    static PlayerMoves fullChoices() {
        PlayerMoves x = busy();
        for (int i = 2; i < 6; i++) {
            must(x.deal(4, 0, 10, -1));
        }
        for (int i = 2; i < 8; i++) {
            must(x.wish(0));
        }
        for (int i = 2; i < 10; i++) {
            must(x.candidate(1000, 1));
        }
        for (int i = 2; i < 12; i++) {
            must(x.claim(3, 7));
        }
        return x;
    }

    /** A busy object on its last DAY. */
    static PlayerMoves lastDay() {
        PlayerMoves x = busy();
        Due.until(x, 2999);
        return x;
    }
}
