/** Promises 1 to 6: time and leagues. */
public final class TimeTest {
    public static void main(String[] args) {
        newObject();
        days();
        minute();
        windows();
        papers();
        Due.end();
    }

    private static void newObject() {
        PlayerMoves x = new PlayerMoves();
        for (int what = 0; what <= 10; what++) {
            Due.is("new count(" + what + ")", x.count(what), 0);
        }
        Due.is("new ofBody(0, 0)", x.ofBody(0, 0), PlayerMoves.VOID);
        Due.is("new ofMove(0, 0)", x.ofMove(0, 0), PlayerMoves.VOID);
        Due.is("new inForce(0, 0, 0)", x.inForce(0, 0, 0), -2);
        Due.is("new gets(0)", x.gets(0), -1);
        Due.is("new got(0)", x.got(0), -1);
        Due.is("new trace(0)", x.trace(0), -1);
        Due.is("new chain()", x.chain(), -1);
        Due.is("new rings()", x.rings(), -1);
        Due.is("new buys", x.buys(1, 10, 0), -1);
        Due.is("new part(1)", x.part(1), -1);
        Due.is("new taken(5, 0)", x.taken(5, 0), -11);
        int[] terms = {0, 0, 0, 1, 0, 0, 1, 0, 0};
        int[] other = {7, 7, 7, 2, 7, 7, 7, 7, 7};
        for (int what = 0; what < 9; what++) {
            Due.is("new term(" + what + ")", x.term(what, other[what]), terms[what]);
        }
        PlayerMoves y = new PlayerMoves();
        Due.is("another object's term(0)", y.term(0, 0), 0);
    }

    private static void days() {
        PlayerMoves x = new PlayerMoves();
        Due.is("days(0)", x.days(0), -1);
        Due.is("days(-1)", x.days(-1), -1);
        Due.is("days(301)", x.days(301), -1);
        Due.is("days(MAX)", x.days(Integer.MAX_VALUE), -1);
        Due.is("days(1)", x.days(1), 1);
        x.minute(1439);
        Due.is("count(7)", x.count(7), 1439);
        Due.is("days(300)", x.days(300), 301);
        Due.is("MINUTE of a new DAY", x.count(7), 0);
        Due.until(x, 2900);
        x.minute(5);
        Due.is("days(100) beyond 2999", x.days(100), -1);
        Due.is("count(6) as it was", x.count(6), 2900);
        Due.is("count(7) as it was", x.count(7), 5);
        Due.is("days(99)", x.days(99), 2999);
        Due.is("days(1) beyond 2999", x.days(1), -1);
    }

    private static void minute() {
        PlayerMoves x = new PlayerMoves();
        Due.is("minute(-1)", x.minute(-1), -1);
        Due.is("minute(0)", x.minute(0), 0);
        Due.is("minute(10)", x.minute(10), 0);
        Due.is("minute(10) again", x.minute(10), 10);
        Due.is("minute(9)", x.minute(9), -1);
        Due.is("minute(1440)", x.minute(1440), -1);
        Due.is("minute(1439)", x.minute(1439), 10);
        Due.is("minute(1439) again", x.minute(1439), 1439);
    }

    private static void windows() {
        PlayerMoves x = new PlayerMoves();
        Due.is("window(-1, 0, 1)", x.window(-1, 0, 1), -1);
        Due.is("window(4, 0, 1)", x.window(4, 0, 1), -1);
        Due.is("window(0, -1, 1)", x.window(0, -1, 1), -1);
        Due.is("window(0, 5, 4)", x.window(0, 5, 4), -1);
        Due.is("window(0, 0, 3000)", x.window(0, 0, 3000), -1);
        Due.is("window(0, 3000, 3000)", x.window(0, 3000, 3000), -1);
        Due.is("window(3, 0, 2999)", x.window(3, 0, 2999), 1);
        Due.is("window(0, 5, 5)", x.window(0, 5, 5), 1);
        Due.is("window(0, 10, 20)", x.window(0, 10, 20), 2);
        for (int n = 3; n <= 6; n++) {
            Due.is("window " + n, x.window(0, 2000 + n, 2999), n);
        }
        Due.is("a 7th window", x.window(0, 30, 40), -3);
        Due.is("a bad 7th window", x.window(0, 30, 29), -1);
        Due.is("open(0, 30)", x.open(0, 30), 0);
        Due.is("open(0, 4)", x.open(0, 4), 0);
        Due.is("open(0, 5)", x.open(0, 5), 1);
        Due.is("open(0, 6)", x.open(0, 6), 0);
        Due.is("open(0, 10)", x.open(0, 10), 1);
        Due.is("open(0, 20)", x.open(0, 20), 1);
        Due.is("open(0, 21)", x.open(0, 21), 0);
        Due.is("open(0, 2999)", x.open(0, 2999), 1);
        Due.is("open(3, 0)", x.open(3, 0), 1);
        Due.is("open(1, 0)", x.open(1, 0), 0);
        Due.is("open(4, 0)", x.open(4, 0), -1);
        Due.is("open(-1, 0)", x.open(-1, 0), -1);
        Due.is("open(0, -1)", x.open(0, -1), -1);
        Due.is("open(0, 3000)", x.open(0, 3000), -1);
    }

    private static void papers() {
        PlayerMoves x = new PlayerMoves();
        Due.is("papers(4, 0)", x.papers(4, 0), -1);
        Due.is("papers(-1, 0)", x.papers(-1, 0), -1);
        Due.is("papers(0, -1)", x.papers(0, -1), -1);
        Due.is("papers(0, 1440)", x.papers(0, 1440), -1);
        Due.is("papers(0, 0)", x.papers(0, 0), 1439);
        Due.is("papers(0, 1439)", x.papers(0, 1439), 0);
        Due.is("papers(3, 7)", x.papers(3, 7), 1439);
        Due.is("papers(3, 8)", x.papers(3, 8), 7);
    }
}
