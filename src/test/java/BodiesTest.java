/** Promises 7 to 11: bodies. */
public final class BodiesTest {
    private static final int VOID = PlayerMoves.VOID;

    public static void main(String[] args) {
        body();
        club();
        player();
        income();
        ofBody();
        full();
        Due.end();
    }

    private static void body() {
        PlayerMoves x = new PlayerMoves();
        int[] bad = {-1, 2, 3, 4, 5, 7, 8};
        for (int kind : bad) {
            Due.is("body(" + kind + ")", x.body(kind), -1);
        }
        Due.is("body(0)", x.body(0), 0);
        Due.is("body(1)", x.body(1), 1);
        Due.is("body(6)", x.body(6), 2);
        Due.is("count(0)", x.count(0), 3);
    }

    private static void club() {
        PlayerMoves x = new PlayerMoves();
        int[] bad = {-1, 0, 1, 2, 3, 4, 6, 8};
        for (int kind : bad) {
            Due.is("club(" + kind + ", 0, 0)", x.club(kind, 0, 0), -1);
        }
        Due.is("club(5, -1, 0)", x.club(5, -1, 0), -1);
        Due.is("club(5, 4, 0)", x.club(5, 4, 0), -1);
        Due.is("club(5, 0, -1)", x.club(5, 0, -1), -1);
        Due.is("club(5, 0, 10000000)", x.club(5, 0, 10000000), -1);
        Due.is("club(5, 0, 9999999)", x.club(5, 0, 9999999), 0);
        Due.is("club(7, 3, 0)", x.club(7, 3, 0), 1);
        x.body(0);
        Due.is("count(1)", x.count(1), 2);
    }

    private static void player() {
        PlayerMoves x = new PlayerMoves();
        x.body(6);
        x.body(1);
        int[] bad = {-1, 0, 1, 5, 6, 7, 8};
        for (int kind : bad) {
            Due.is("player(" + kind + ", 0, 0, -1)", x.player(kind, 0, 0, -1), -1);
        }
        Due.is("player born 1", x.player(2, 1, 0, -1), -1);
        Due.is("player born -9001", x.player(2, -9001, 0, -1), -1);
        Due.is("player worth -1", x.player(2, 0, -1, -1), -1);
        Due.is("player worth 100000", x.player(2, 0, 100000, -1), -1);
        Due.is("player's agent a PERSON", x.player(2, 0, 0, 1), -1);
        Due.is("player's agent not there", x.player(2, 0, 0, 2), -1);
        Due.is("player's agent -2", x.player(2, 0, 0, -2), -1);
        Due.is("player(2, 0, 0, -1)", x.player(2, 0, 0, -1), 2);
        Due.is("player(3, -9000, 99999, 0)", x.player(3, -9000, 99999, 0), 3);
        Due.is("player(4, -1, 1, 0)", x.player(4, -1, 1, 0), 4);
        Due.is("player's agent a PLAYER", x.player(2, 0, 0, 3), -1);
        Due.is("count(2)", x.count(2), 3);
        Due.is("count(9)", x.count(9), 3);
    }

    private static void income() {
        PlayerMoves x = new PlayerMoves();
        x.club(5, 0, 0);
        x.club(7, 0, 0);
        x.body(0);
        Due.is("income(2, 0, 1)", x.income(2, 0, 1), -1);
        Due.is("income(3, 0, 1)", x.income(3, 0, 1), -1);
        Due.is("income(-1, 0, 1)", x.income(-1, 0, 1), -1);
        Due.is("income(0, -1, 1)", x.income(0, -1, 1), -1);
        Due.is("income(0, 10, 1)", x.income(0, 10, 1), -1);
        Due.is("income(0, 0, -1)", x.income(0, 0, -1), -1);
        Due.is("income(0, 0, 10000000)", x.income(0, 0, 10000000), -1);
        Due.is("income(0, 0, 9999999)", x.income(0, 0, 9999999), 0);
        Due.is("income(0, 0, 0)", x.income(0, 0, 0), 9999999);
        Due.is("income(1, 9, 5)", x.income(1, 9, 5), 0);
        Due.is("income(1, 9, 6)", x.income(1, 9, 6), 5);
        Due.is("income(0, 9, 6)", x.income(0, 9, 6), 0);
    }

    private static void ofBody() {
        PlayerMoves x = new PlayerMoves();
        x.body(0);
        x.body(1);
        x.body(6);
        x.club(5, 2, 77);
        x.club(7, 1, 0);
        x.player(2, -299, 9, 2);
        x.player(3, -300, 8, -1);
        for (int i = 0; i < 3; i++) {
            Due.is("ofBody(" + i + ", 1)", x.ofBody(i, 1), VOID);
            Due.is("ofBody(" + i + ", 2)", x.ofBody(i, 2), VOID);
        }
        int[] kinds = {0, 1, 6, 5, 7, 2, 3};
        for (int i = 0; i < kinds.length; i++) {
            Due.is("ofBody(" + i + ", 0)", x.ofBody(i, 0), kinds[i]);
            Due.is("ofBody(" + i + ", -1)", x.ofBody(i, -1), VOID);
            Due.is("ofBody(" + i + ", 10)", x.ofBody(i, 10), VOID);
        }
        Due.is("ofBody(-1, 0)", x.ofBody(-1, 0), VOID);
        Due.is("ofBody(7, 0)", x.ofBody(7, 0), VOID);
        Due.is("ofBody(3, 1)", x.ofBody(3, 1), 2);
        Due.is("ofBody(3, 2)", x.ofBody(3, 2), 77);
        Due.is("ofBody(3, 3)", x.ofBody(3, 3), VOID);
        Due.is("ofBody(4, 1)", x.ofBody(4, 1), 1);
        int[] first = {2, 0, 9, 2, -1, -1, 0, -1, 0, 0};
        int[] second = {3, 1, 8, -1, -1, -1, 0, -1, 0, 0};
        for (int what = 0; what < 10; what++) {
            Due.is("ofBody(5, " + what + ")", x.ofBody(5, what), first[what]);
            Due.is("ofBody(6, " + what + ")", x.ofBody(6, what), second[what]);
        }
        x.days(1);
        Due.is("AGE on the next DAY", x.ofBody(5, 1), 1);
        x.past(5, 3, 0, 0);
        x.sign(5, 4, 100, 12);
        int[] signed = {2, 1, 9, 2, 4, 4, 2, 100, 12, 0};
        for (int what = 0; what < 10; what++) {
            Due.is("signed ofBody(5, " + what + ")", x.ofBody(5, what), signed[what]);
        }
        x.days(100);
        int[] free = {2, 1, 9, 2, -1, -1, 2, -1, 0, 0};
        for (int what = 0; what < 10; what++) {
            Due.is("free ofBody(5, " + what + ")", x.ofBody(5, what), free[what]);
        }
    }

    private static void full() {
        PlayerMoves x = new PlayerMoves();
        for (int i = 0; i < 150; i++) {
            Due.is("body " + i, x.body(0), i);
        }
        Due.is("a 151st body", x.body(0), -3);
        Due.is("a bad 151st body", x.body(2), -1);
        Due.is("a 151st club", x.club(5, 0, 0), -3);
        Due.is("a bad 151st club", x.club(5, 4, 0), -1);
        Due.is("a 151st player", x.player(2, 0, 0, -1), -3);
        Due.is("a bad 151st player", x.player(2, 1, 0, -1), -1);
        Due.is("ofBody(150, 0)", x.ofBody(150, 0), VOID);
        Due.is("ofBody(151, 0)", x.ofBody(151, 0), VOID);
        Due.is("count(0)", x.count(0), 150);
        Due.is("count(1)", x.count(1), 0);
        Due.is("count(2)", x.count(2), 0);
    }
}
