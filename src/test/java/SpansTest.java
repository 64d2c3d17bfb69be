/** Promises 12 to 16: spans, owners, holders, teaching. */
public final class SpansTest {
    public static void main(String[] args) {
        past();
        fromRow();
        fullSpans();
        sign();
        ownersAndHolders();
        expiredSpansHideEarlierOnes();
        undoneSpans();
        taught();
        Due.end();
    }

    /** Two clubs 0, 1 of LEAGUE 0, a school 2 of LEAGUE 1, a player 3 and a youth 4. */
    private static PlayerMoves made() {
        PlayerMoves x = new PlayerMoves();
        x.club(5, 0, 10000);
        x.club(5, 0, 10000);
        x.club(7, 1, 10000);
        x.player(2, -6000, 10, -1);
        x.player(4, -3600, 10, -1);
        x.window(0, 0, 2999);
        x.window(1, 0, 2999);
        return x;
    }

    private static void past() {
        PlayerMoves x = made();
        Due.is("past(0, 0, ..)", x.past(0, 0, -5, -5), -1);
        Due.is("past(3, 3, ..)", x.past(3, 3, -5, -5), -1);
        Due.is("past(5, 0, ..)", x.past(5, 0, -5, -5), -1);
        Due.is("past(3, 0, -10000, -5)", x.past(3, 0, -10000, -5), -1);
        Due.is("past(3, 0, -4, -5)", x.past(3, 0, -4, -5), -1);
        Due.is("past(3, 0, 0, 1)", x.past(3, 0, 0, 1), -1);
        Due.is("past(3, 0, -9999, -9999)", x.past(3, 0, -9999, -9999), 1);
        Due.is("past(3, 2, 0, 0)", x.past(3, 2, 0, 0), 2);
        Due.is("past(4, 2, -10, 0)", x.past(4, 2, -10, 0), 1);
        Due.is("count(3)", x.count(3), 3);
        Due.is("at(3, -9999, 0)", x.at(3, -9999, 0), 0);
        Due.is("at(3, -9998, 0)", x.at(3, -9998, 0), -2);
        Due.is("at(3, 0, 0)", x.at(3, 0, 0), 2);
        Due.is("at(3, 0, 1)", x.at(3, 0, 1), -2);
        Due.is("at(3, -10000, 0)", x.at(3, -10000, 0), -1);
        Due.is("at(3, 3000, 0)", x.at(3, 3000, 0), -1);
        Due.is("at(3, 2999, 0)", x.at(3, 2999, 0), -2);
        Due.is("at(3, 0, 2)", x.at(3, 0, 2), -1);
        Due.is("at(3, 0, -1)", x.at(3, 0, -1), -1);
        Due.is("at(0, 0, 0)", x.at(0, 0, 0), -1);
        x.past(3, 1, -9999, -9000);
        Due.is("the later told SPAN counts", x.at(3, -9999, 0), 1);
    }

    private static void threes(PlayerMoves x, int shelf, int... values) {
        x.row(shelf, 1, values.length);
        for (int i = 0; i < values.length; i++) {
            x.put(shelf, i, values[i]);
        }
    }

    private static void fromRow() {
        PlayerMoves x = made();
        threes(x, 0, 9, 0, -50, -40, 2, -30, 0, 3, -5, -5, 1, -9);
        Due.is("spans(0, 0, 1, 1)", x.spans(0, 0, 1, 1), -1);
        Due.is("spans(3, -1, 1, 1)", x.spans(3, -1, 1, 1), -1);
        Due.is("spans(3, 6, 1, 1)", x.spans(3, 6, 1, 1), -1);
        Due.is("spans(3, 0, 1, 0)", x.spans(3, 0, 1, 0), -1);
        Due.is("spans(3, 0, 1, 21)", x.spans(3, 0, 1, 21), -1);
        Due.is("spans of a missing shelf", x.spans(3, 1, 0, 1), 0);
        Due.is("LACK by a missing shelf", x.ofBody(3, 9), 1);
        Due.is("spans(3, 0, 1, 2)", x.spans(3, 0, 1, 2), 2);
        Due.is("LACK no more", x.ofBody(3, 9), 0);
        Due.is("at(3, -40, 0)", x.at(3, -40, 0), 0);
        Due.is("at(3, -39, 0)", x.at(3, -39, 0), -2);
        Due.is("at(3, -30, 0)", x.at(3, -30, 0), 2);
        Due.is("spans up to a wrong three", x.spans(3, 0, 1, 3), 2);
        Due.is("LACK by a wrong three", x.ofBody(3, 9), 1);
        Due.is("SPANS that came stay", x.ofBody(3, 6), 4);
        x.keep(2, 3);
        Due.is("spans of a body", x.spans(3, 2, 0, 1), -12);
        x.row(2, 2, 3);
        Due.is("spans of ints", x.spans(3, 2, -1, 1), -12);
        Due.is("LACK stays by -12", x.ofBody(3, 9), 1);
        Due.is("spans(3, 0, 4, 1)", x.spans(3, 0, 4, 1), 1);
        Due.is("LACK no more again", x.ofBody(3, 9), 0);
        Due.is("spans from below 0", x.spans(3, 0, -1, 1), 0);
        Due.is("LACK by a place below 0", x.ofBody(3, 9), 1);
        int[] places = {10, 12, 60, Integer.MAX_VALUE, Integer.MIN_VALUE};
        for (int place : places) {
            x.spans(3, 0, 4, 1);
            Due.is("spans from " + place, x.spans(3, 0, place, 20), 0);
            Due.is("LACK from " + place, x.ofBody(3, 9), 1);
        }
        int[][] wrong = {{3, -1, 0}, {-1, -1, 0}, {9, -1, 0}, {0, -10000, 0}, {0, -1, -2}, {0, 0, 1}, {0, 1, 1}};
        for (int[] three : wrong) {
            threes(x, 3, three);
            x.spans(3, 0, 4, 1);
            Due.is("spans of " + three[0] + ", " + three[1] + ", " + three[2], x.spans(3, 3, 0, 1), 0);
            Due.is("LACK by it", x.ofBody(3, 9), 1);
        }
        threes(x, 3, 0, -9999, -9999, 1, 0, 0);
        Due.is("spans of the edges", x.spans(4, 3, 0, 2), 2);
        Due.is("LACK of another", x.ofBody(4, 9), 0);
    }

    private static void fullSpans() {
        PlayerMoves x = made();
        int[] all = new int[60];
        for (int i = 0; i < 20; i++) {
            all[3 * i + 1] = -10 * i - 5;
            all[3 * i + 2] = -10 * i - 1;
        }
        threes(x, 0, all);
        x.sign(4, 0, 5, 5);
        for (int i = 0; i < 29; i++) {
            Due.is("spans by 20", x.spans(3, 0, 0, 20), 20);
        }
        Due.is("spans up to FULL", x.spans(3, 0, 0, 20), 19);
        Due.is("papers as they were", x.ofBody(3, 9), 0);
        Due.is("count(3)", x.count(3), 600);
        Due.is("spans when FULL", x.spans(3, 0, 0, 20), 0);
        Due.is("papers as they were", x.ofBody(3, 9), 0);
        Due.is("past when FULL", x.past(3, 0, -1, 0), -3);
        Due.is("bad past when FULL", x.past(3, 0, 0, -1), -1);
        Due.is("sign when FULL", x.sign(3, 0, 5, 5), -3);
        Due.is("sign of one who is not FREE when FULL", x.sign(4, 0, 5, 5), -2);
        Due.is("sell when FULL", x.sell(4, 1), -3);
        Due.is("lend when FULL", x.lend(4, 1), -3);
        x.term(0, 20000);
        Due.is("sell by WHY 5 when FULL", x.sell(4, 1), -25);
        Due.is("taught by many SPANS", x.taught(3, 0), 100);
    }

    private static void sign() {
        PlayerMoves x = made();
        x.days(10);
        Due.is("sign(0, ..)", x.sign(0, 0, 20, 1), -1);
        Due.is("sign(3, 3, ..)", x.sign(3, 3, 20, 1), -1);
        Due.is("sign till 9", x.sign(3, 0, 9, 1), -1);
        Due.is("sign till 3000", x.sign(3, 0, 3000, 1), -1);
        Due.is("sign for -1", x.sign(3, 0, 20, -1), -1);
        Due.is("sign for 100000", x.sign(3, 0, 20, 100000), -1);
        Due.is("sign till TODAY", x.sign(3, 0, 10, 99999), 1);
        Due.is("sign till 2999", x.sign(4, 2, 2999, 0), 1);
        Due.is("sign of one who is not FREE", x.sign(3, 0, 20, 1), -2);
        Due.is("bad sign of one who is not FREE", x.sign(3, 0, 9, 1), -1);
        Due.is("count(9)", x.count(9), 0);
        x.days(1);
        Due.is("count(9)", x.count(9), 1);
        Due.is("sign behind the CONTRACT", x.sign(3, 1, 20, 1), 1);
        Due.is("at(3, 10, 1)", x.at(3, 10, 1), 0);
        Due.is("at(3, 11, 1)", x.at(3, 11, 1), 1);
        Due.is("at(3, 20, 1)", x.at(3, 20, 1), 1);
        Due.is("at(3, 21, 1)", x.at(3, 21, 1), -2);
    }

    private static void ownersAndHolders() {
        PlayerMoves x = made();
        x.sign(3, 0, 100, 1);
        x.past(3, 2, 0, 0);
        Due.is("a PAST SPAN told last is the HOLDER on DAY 0", x.at(3, 0, 0), 2);
        Due.is("its OWNER stays", x.at(3, 0, 1), 0);
        x.days(5);
        x.term(7, 150);
        Due.is("lend(3, 1)", x.lend(3, 1), 0);
        Due.is("HOLDER ahead of the LOAN", x.at(3, 4, 0), 0);
        Due.is("HOLDER by the LOAN", x.at(3, 5, 0), 1);
        Due.is("OWNER by the LOAN", x.at(3, 5, 1), 0);
        Due.is("HOLDER behind the CONTRACT", x.at(3, 120, 0), 1);
        Due.is("OWNER behind the CONTRACT", x.at(3, 120, 1), -2);
        Due.is("HOLDER behind the LOAN", x.at(3, 151, 0), -2);
        Due.until(x, 101);
        Due.is("FREE on LOAN", x.ofBody(3, 5), -1);
        Due.is("why when FREE", x.why(3, 1, 0), -2);
        x.sign(3, 2, 120, 9);
        Due.is("the SPAN told last counts", x.at(3, 101, 0), 2);
        Due.is("the LOAN told ahead lies on", x.at(3, 121, 0), 1);
    }

    private static void expiredSpansHideEarlierOnes() {
        PlayerMoves x = made();
        x.sign(3, 0, 900, 1);
        x.days(5);
        x.term(1, 10);
        x.sell(3, 1);
        Due.is("OWNER up to the till", x.at(3, 10, 1), 1);
        Due.is("OWNER behind the till", x.at(3, 11, 1), -2);
        Due.is("HOLDER behind the till", x.at(3, 11, 0), -2);
        x.days(20);
        Due.is("ofBody(3, 7)", x.ofBody(3, 7), -1);
        x.undo(0);
        Due.is("OWNER on the DAY ahead of UNDOING", x.at(3, 24, 1), -2);
        Due.is("OWNER from UNDOING on", x.at(3, 25, 1), 0);
        Due.is("HOLDER from UNDOING on", x.at(3, 25, 0), 0);
        Due.is("ofBody(3, 7) again", x.ofBody(3, 7), 900);
        Due.is("HOLDER ahead of the till stays", x.at(3, 9, 0), 1);
    }

    private static void undoneSpans() {
        PlayerMoves x = made();
        x.sign(3, 0, 900, 1);
        x.term(7, 50);
        x.lend(3, 1);
        x.days(10);
        x.undo(0);
        Due.is("at(3, 9, 0)", x.at(3, 9, 0), 1);
        Due.is("at(3, 10, 0)", x.at(3, 10, 0), 0);
        Due.is("SPANS with UNDONE ones", x.ofBody(3, 6), 2);
        Due.is("past tells UNDONE ones, too", x.past(3, 0, -1, -1), 3);
    }

    private static void taught() {
        PlayerMoves x = made();
        Due.is("taught(0, 0)", x.taught(0, 0), -1);
        Due.is("taught(3, 3)", x.taught(3, 3), -1);
        Due.is("taught(3, -1)", x.taught(3, -1), -1);
        Due.is("taught(3, 0)", x.taught(3, 0), 0);
        x.past(3, 0, -9999, -2400);
        Due.is("the first day of age 12", x.taught(3, 0), 1);
        x.past(3, 0, -2401, -2401);
        Due.is("the last day of age 11", x.taught(3, 0), 1);
        x.past(4, 2, -100, 0);
        Due.is("age 12 on DAY 0", x.taught(4, 2), 1);
        x.sign(3, 1, 2999, 1);
        x.sign(4, 0, 2999, 1);
        Due.is("TODAY counts", x.taught(3, 1), 1);
        Due.is("the HOLDER alone teaches", x.taught(4, 2), 0);
        Due.until(x, 899);
        Due.is("up to the last day of age 22", x.taught(3, 1), 900);
        x.days(1);
        Due.is("no day of age 23", x.taught(3, 1), 900);
        Due.is("taught(4, 0)", x.taught(4, 0), 901);
        x.term(7, 1000);
        x.lend(4, 1);
        Due.is("the borrower teaches", x.taught(4, 1), 1);
        Due.is("the OWNER does not", x.taught(4, 0), 900);
        x.days(10);
        Due.is("the borrower teaches on", x.taught(4, 1), 11);
        x.undo(0);
        Due.is("UNDONE from TODAY on", x.taught(4, 1), 10);
        Due.is("back to the OWNER", x.taught(4, 0), 901);
    }
}
