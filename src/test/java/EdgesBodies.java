/** The edges of promises 7 to 11, and of section 1 of the Terms as far as it tells of bodies. */
final class EdgesBodies {
    private static final int BAD = PlayerMoves.BAD, FULL = PlayerMoves.FULL, VOID = PlayerMoves.VOID;
    private static final int MIN = Integer.MIN_VALUE, MAX = Integer.MAX_VALUE;

    private EdgesBodies() {
    }

    static void all() {
        p07Body();
        p08Club();
        p09Player();
        p10Income();
        p11OfBody();
        p11OfAPlayer();
        t1Bodies();
        t1FirstAndLastBody();
        t1Figures();
        t1Age();
    }

    private static void p07Body() {
        Edge.p(7, "A BODY (kind 0), PERSON (1), AGENT (6): its number. BAD, FULL.");
        int[] bad = {-1, 2, 3, 4, 5, 7, 8, MAX, MIN};
        for (int kind : bad) {
            Edge.no("body(" + kind + ")", x -> x.body(kind), BAD);
            Edge.no("body(" + kind + ") when FULL", Worlds::fullBodies, x -> x.body(kind), BAD);
        }
        PlayerMoves x = Worlds.busy();
        int[] kinds = {0, 1, 6};
        for (int i = 0; i < 3; i++) {
            Edge.is("body(" + kinds[i] + ")", x.body(kinds[i]), 10 + i);
            Edge.is("its KIND", x.ofBody(10 + i, 0), kinds[i]);
        }
        Edge.no("body(0) when FULL", Worlds::fullBodies, y -> y.body(0), FULL);
        Edge.no("body(1) when FULL", Worlds::fullBodies, y -> y.body(1), FULL);
        Edge.no("body(6) when FULL", Worlds::fullBodies, y -> y.body(6), FULL);
    }

    private static void p08Club() {
        Edge.p(8, "A CLUB (5), SCHOOL (7): its number. BAD, FULL.");
        int[][] bad = {{-1, 0, 0}, {0, 0, 0}, {1, 0, 0}, {2, 0, 0}, {3, 0, 0}, {4, 0, 0}, {6, 0, 0}, {8, 0, 0}, {MAX, 0, 0}, {MIN, 0, 0}, {5, -1, 0},
            {5, 4, 0}, {7, 4, 0}, {7, -1, 0}, {5, MAX, 0}, {5, MIN, 0}, {5, 0, -1}, {7, 0, -1}, {5, 0, 10000000}, {7, 3, 10000000}, {5, 0, MAX}, {5, 0, MIN}};
        for (int[] w : bad) {
            Edge.no("club(" + w[0] + ", " + w[1] + ", " + w[2] + ")", x -> x.club(w[0], w[1], w[2]), BAD);
        }
        Edge.no("a bad CLUB when FULL", Worlds::fullBodies, x -> x.club(5, 4, 0), BAD);
        Edge.no("a CLUB when FULL", Worlds::fullBodies, x -> x.club(5, 0, 0), FULL);
        Edge.no("a SCHOOL when FULL", Worlds::fullBodies, x -> x.club(7, 3, 9999999), FULL);
        PlayerMoves x = Worlds.busy();
        int[][] good = {{5, 0, 0}, {5, 3, 9999999}, {7, 0, 9999999}, {7, 3, 0}};
        for (int i = 0; i < good.length; i++) {
            Edge.is("club(" + good[i][0] + ", " + good[i][1] + ", " + good[i][2] + ")", x.club(good[i][0], good[i][1], good[i][2]), 10 + i);
            for (int what = 0; what < 3; what++) {
                Edge.is("ofBody(" + (10 + i) + ", " + what + ")", x.ofBody(10 + i, what), good[i][what]);
            }
        }
    }

    private static void p09Player() {
        Edge.p(9, "A PLAYER (2), KEEPER (3), YOUTH (4): its number. BAD (agent -1, or an AGENT), FULL.");
        int[][] bad = {{-1, 0, 0, -1}, {0, 0, 0, -1}, {1, 0, 0, -1}, {5, 0, 0, -1}, {6, 0, 0, -1}, {7, 0, 0, -1}, {8, 0, 0, -1}, {MAX, 0, 0, -1},
            {MIN, 0, 0, -1}, {2, 1, 0, -1}, {3, 1, 0, -1}, {4, MAX, 0, -1}, {2, -9001, 0, -1}, {2, MIN, 0, -1}, {2, 0, -1, -1}, {2, 0, 100000, -1},
            {2, 0, MAX, -1}, {2, 0, MIN, -1}, {2, 0, 0, -2}, {2, 0, 0, 0}, {2, 0, 0, 2}, {2, 0, 0, 4}, {2, 0, 0, 5}, {2, 0, 0, 6}, {2, 0, 0, 8}, {2, 0, 0, 9},
            {2, 0, 0, 10}, {2, 0, 0, 11}, {2, 0, 0, MAX}, {2, 0, 0, MIN}, {2, 0, 0, 150}};
        for (int[] w : bad) {
            Edge.no("player(" + w[0] + ", " + w[1] + ", " + w[2] + ", " + w[3] + ")", x -> x.player(w[0], w[1], w[2], w[3]), BAD);
        }
        Edge.no("a bad PLAYER when FULL", Worlds::fullBodies, x -> x.player(2, 1, 0, -1), BAD);
        Edge.no("a PLAYER when FULL", Worlds::fullBodies, x -> x.player(2, 0, 0, -1), FULL);
        Edge.no("a YOUTH when FULL", Worlds::fullBodies, x -> x.player(4, 0, 0, 3), FULL);
        PlayerMoves x = Worlds.busy();
        int[][] good = {{2, 0, 0, -1}, {3, -9000, 99999, 3}, {4, -1, 1, 3}, {2, -8999, 99998, -1}};
        for (int i = 0; i < good.length; i++) {
            int[] w = good[i];
            Edge.is("player(" + w[0] + ", " + w[1] + ", " + w[2] + ", " + w[3] + ")", x.player(w[0], w[1], w[2], w[3]), 10 + i);
            Edge.is("KIND", x.ofBody(10 + i, 0), w[0]);
            Edge.is("WORTH", x.ofBody(10 + i, 2), w[2]);
            Edge.is("AGENT", x.ofBody(10 + i, 3), w[3]);
        }
    }

    private static void p10Income() {
        Edge.p(10, "INCOME of a CLUB in a YEAR (0 .. 9): what it was. BAD.");
        int[][] bad = {{-1, 0, 5}, {10, 0, 5}, {3, 0, 5}, {4, 0, 5}, {6, 0, 5}, {8, 0, 5}, {9, 0, 5}, {MAX, 0, 5}, {MIN, 0, 5}, {0, -1, 5}, {0, 10, 5},
            {0, MAX, 5}, {0, MIN, 5}, {0, 0, -1}, {0, 0, 10000000}, {0, 0, MAX}, {0, 0, MIN}};
        for (int[] w : bad) {
            Edge.no("income(" + w[0] + ", " + w[1] + ", " + w[2] + ")", x -> x.income(w[0], w[1], w[2]), BAD);
        }
        PlayerMoves x = Worlds.busy();
        Edge.is("income(0, 0, 0)", x.income(0, 0, 0), 5000);
        Edge.is("income(0, 0, 9999999)", x.income(0, 0, 9999999), 0);
        Edge.is("income(0, 0, 1)", x.income(0, 0, 1), 9999999);
        Edge.is("income(0, 9, 9999999)", x.income(0, 9, 9999999), 1);
        Edge.is("income(2, 9, 7) of a SCHOOL", x.income(2, 9, 7), 0);
        Edge.is("income(2, 9, 8) of a SCHOOL", x.income(2, 9, 8), 7);
        Edge.is("income(1, 9, 8) of another", x.income(1, 9, 8), 0);
        Edge.is("income(0, 8, 8) of another YEAR", x.income(0, 8, 8), 0);
    }

    private static void p11OfBody() {
        Edge.p(11, "VOID: BAD.");
        int[] nobody = {-1, 10, 150, MAX, MIN};
        for (int body : nobody) {
            Edge.no("ofBody(" + body + ", 0)", x -> x.ofBody(body, 0), VOID);
            Edge.no("ofBody(" + body + ", 2)", x -> x.ofBody(body, 2), VOID);
        }
        int[] last = {2, 2, 2, 0, 9, 9, 9, 9, 0, 0};
        int[] kinds = {5, 5, 7, 6, 2, 3, 4, 2, 0, 1};
        for (int i = 0; i < 10; i++) {
            int body = i;
            Edge.p(11, "Of a BODY: 0 KIND");
            Edge.no("ofBody(" + body + ", 0)", x -> x.ofBody(body, 0), kinds[body]);
            Edge.p(11, "VOID: BAD.");
            Edge.no("ofBody(" + body + ", -1)", x -> x.ofBody(body, -1), VOID);
            Edge.no("ofBody(" + body + ", MIN)", x -> x.ofBody(body, MIN), VOID);
            Edge.no("ofBody(" + body + ", MAX)", x -> x.ofBody(body, MAX), VOID);
            for (int what = last[i] + 1; what <= 10; what++) {
                int asked = what;
                Edge.no("ofBody(" + body + ", " + what + ")", x -> x.ofBody(body, asked), VOID);
            }
        }
        Edge.no("the last of 150", Worlds::fullBodies, x -> x.ofBody(149, 0), 0);
        Edge.no("one behind the last of 150", Worlds::fullBodies, x -> x.ofBody(150, 0), VOID);
        Edge.p(11, "of CLUBS: 1 LEAGUE, 2 COINS");
        Edge.no("ofBody(2, 1)", x -> x.ofBody(2, 1), 2);
        Edge.no("ofBody(2, 2)", x -> x.ofBody(2, 2), 303);
    }

    private static void p11OfAPlayer() {
        Edge.p(11, "of PLAYERS: 1 AGE TODAY, 2 WORTH, 3 AGENT (-1), 4 HOLDER TODAY (-1), 5 OWNER TODAY (-1), 6 SPANS (UNDONE ones, too),"
            + " 7 CONTRACT till (-1), 8 WAGE (0), 9 whether his papers LACK (1, 0).");
        int[][] due = {{2, 20, 50, 3, 1, 1, 4, 1200, 40, 0}, {3, 23, 40, -1, 0, 1, 3, 800, 200, 0}, {4, 13, 60, 3, 0, 0, 2, 2999, 100, 0},
            {2, 16, 70, -1, -1, -1, 0, -1, 0, 1}};
        for (int i = 0; i < 4; i++) {
            int body = 4 + i;
            for (int k = 0; k < 10; k++) {
                int what = k;
                Edge.no("ofBody(" + body + ", " + what + ")", x -> x.ofBody(body, what), due[i][what]);
            }
        }
        PlayerMoves x = Worlds.lastDay();
        int[] then = {2, 29, 50, 3, -1, -1, 4, -1, 0, 0};
        for (int what = 0; what < 10; what++) {
            Edge.is("on the last DAY ofBody(4, " + what + ")", x.ofBody(4, what), then[what]);
        }
        Edge.is("CONTRACT till the last DAY", x.ofBody(6, 7), 2999);
    }

    private static void t1Bodies() {
        Edge.t(1, "BODIES 0 .. 149, as they come, of KINDS: 0 BODY; 1 PERSON under BODY; 2 PLAYER under PERSON; 3 KEEPER under PLAYER; 4 YOUTH under PLAYER;"
            + " 5 CLUB under BODY; 6 AGENT under PERSON; 7 SCHOOL under CLUB.");
        PlayerMoves x = Worlds.fresh();
        for (int i = 0; i < 150; i++) {
            int kind = i % 8;
            int came = kind == 5 || kind == 7 ? x.club(kind, 3, i) : kind >= 2 && kind <= 4 ? x.player(kind, -i, i, -1) : x.body(kind);
            Edge.is("BODY " + i, came, i);
        }
        Edge.is("BODY 150", x.body(0), FULL);
        Edge.is("CLUB 150", x.club(5, 0, 0), FULL);
        Edge.is("PLAYER 150", x.player(2, 0, 0, -1), FULL);
        Edge.is("the last one is a CLUB", x.ofBody(149, 2), 149);
        Edge.is("the last PLAYER", x.ofBody(148, 2), 148);
        Edge.is("the last PLAYER comes to the last CLUB", x.sign(148, 149, 0, 9), 1);
        Edge.is("OWNER", x.ofBody(148, 5), 149);
        Edge.is("WAGES", x.squad(149, 3), 9);
    }

    /** The first of all BODIES is a PLAYER, the last one a CLUB that TAUGHT him. */
    private static void t1FirstAndLastBody() {
        Edge.t(1, "BODIES 0 .. 149, as they come");
        PlayerMoves x = Worlds.fresh();
        Edge.is("the first one, a YOUTH", x.player(4, -4600, 7, -1), 0);
        Edge.is("the second one, a CLUB", x.club(5, 3, 1000), 1);
        Edge.is("the third one, a CLUB", x.club(5, 3, 1000), 2);
        for (int i = 3; i < 149; i++) {
            x.body(1);
        }
        Edge.is("the last one, a SCHOOL", x.club(7, 3, 1000), 149);
        Edge.is("CLUBS", x.count(1), 3);
        Edge.is("PLAYERS", x.count(2), 1);
        Edge.is("FREE PLAYERS", x.count(9), 1);
        Edge.is("past(0, 149, -999, -1)", x.past(0, 149, -999, -1), 1);
        Edge.is("sign(0, 1, 2999, 5)", x.sign(0, 1, 2999, 5), 1);
        Edge.is("FREE PLAYERS", x.count(9), 0);
        int[] due = {1, 1, 1, 5, 5, 5, 0};
        for (int what = 0; what < 7; what++) {
            Edge.is("squad(1, " + what + ")", x.squad(1, what), due[what]);
        }
        x.window(3, 0, 2999);
        Worlds.terms(x, 100, 2999, 5);
        Edge.is("sell(0, 2)", x.sell(0, 2), 0);
        Edge.is("SHARE of the last one", x.share(0, 149), 5);
        Edge.is("COINS of the last one", x.ofBody(149, 2), 1005);
        Edge.is("undo(0)", x.undo(0), 1);
        Edge.is("COINS of the last one again", x.ofBody(149, 2), 1000);
        Edge.is("play(0, 60)", x.play(0, 60), 60);
    }

    private static void t1Figures() {
        Edge.t(1, "COINS (0 .. 9999999; below 0 they may be by what is told, above it, too)");
        PlayerMoves x = Worlds.fresh();
        x.body(6);
        x.club(5, 0, 9999999);
        x.club(5, 0, 9999999);
        x.player(2, 0, 0, 0);
        x.window(0, 0, 2999);
        x.sign(3, 1, 2999, 0);
        Worlds.terms(x, 999999, 2999);
        Edge.is("sell(3, 2)", x.sell(3, 2), 0);
        Edge.is("COINS above 9999999", x.ofBody(1, 2), 9999999 + 999999);
        Edge.is("COINS of the buyer", x.ofBody(2, 2), 9999999 - 999999 - 30000);
        PlayerMoves y = Worlds.fresh();
        y.body(6);
        y.club(5, 0, 0);
        y.club(5, 0, 999999);
        y.player(2, 0, 0, 0);
        y.window(0, 0, 2999);
        y.sign(3, 1, 2999, 0);
        Worlds.terms(y, 999999, 2999);
        Edge.is("sell(3, 2)", y.sell(3, 2), 0);
        Edge.is("COINS below 0", y.ofBody(2, 2), -30000);
        Edge.is("club with COINS 10000000", y.club(5, 0, 10000000), BAD);
        Edge.t(1, "INCOME of each YEAR (0 .. 9999999; 0 at first)");
        for (int year = 0; year < 10; year++) {
            Edge.is("income(1, " + year + ", 9999999)", y.income(1, year, 9999999), 0);
            Edge.is("income(1, " + year + ", 10000000)", y.income(1, year, 10000000), BAD);
            Edge.is("income(1, " + year + ", 0)", y.income(1, year, 0), 9999999);
            Edge.is("income(1, " + year + ", -1)", y.income(1, year, -1), BAD);
        }
        Edge.t(1, "BORN on a DAY (-9000 .. 0), WORTH (0 .. 99999), an AGENT (-1: none).");
        Edge.is("BORN -9000", y.player(2, -9000, 0, -1), 4);
        Edge.is("BORN -9001", y.player(2, -9001, 0, -1), BAD);
        Edge.is("BORN 0", y.player(2, 0, 99999, 0), 5);
        Edge.is("BORN 1", y.player(2, 1, 99999, 0), BAD);
        Edge.is("WORTH 100000", y.player(2, 0, 100000, 0), BAD);
        Edge.is("WORTH -1", y.player(2, 0, -1, 0), BAD);
        Edge.is("AGENT -1", y.ofBody(4, 3), -1);
        Edge.is("AGENT 0", y.ofBody(5, 3), 0);
    }

    private static void t1Age() {
        Edge.t(1, "AGE on a DAY: (DAY less BORN) / 300, cut.");
        PlayerMoves x = Worlds.fresh();
        x.player(2, 0, 0, -1);
        x.player(2, -299, 0, -1);
        x.player(2, -300, 0, -1);
        x.player(2, -9000, 0, -1);
        int[] ages = {0, 0, 1, 30};
        int[] later = {0, 1, 1, 30};
        int[] last = {9, 10, 10, 39};
        for (int i = 0; i < 4; i++) {
            Edge.is("AGE on DAY 0 of " + i, x.ofBody(i, 1), ages[i]);
        }
        x.days(1);
        for (int i = 0; i < 4; i++) {
            Edge.is("AGE on DAY 1 of " + i, x.ofBody(i, 1), later[i]);
        }
        Due.until(x, 299);
        Edge.is("AGE on DAY 299", x.ofBody(0, 1), 0);
        x.days(1);
        Edge.is("AGE on DAY 300", x.ofBody(0, 1), 1);
        Due.until(x, 2999);
        for (int i = 0; i < 4; i++) {
            Edge.is("AGE on DAY 2999 of " + i, x.ofBody(i, 1), last[i]);
        }
    }
}
