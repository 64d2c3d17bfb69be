/** Promises 32 to 41: deals, rings, buys, claims. */
public final class ChoicesTest {
    public static void main(String[] args) {
        deals();
        chains();
        wishes();
        rings();
        candidates();
        buys();
        claims();
        parts();
        Due.end();
    }

    /** Clubs 0, 1, 2 with 100, 50, 0 coins; players 3, 4, 5 of theirs, 6 FREE. */
    private static PlayerMoves made() {
        PlayerMoves x = new PlayerMoves();
        x.club(5, 0, 100);
        x.club(5, 0, 50);
        x.club(7, 0, 0);
        for (int i = 0; i < 4; i++) {
            x.player(2, 0, 0, -1);
        }
        for (int i = 0; i < 3; i++) {
            x.sign(3 + i, i, 10, 0);
        }
        return x;
    }

    private static void deals() {
        PlayerMoves x = made();
        Due.is("deal of no player", x.deal(0, 1, 0, -1), -1);
        Due.is("deal of a FREE one", x.deal(6, 1, 0, -1), -1);
        Due.is("deal with no club", x.deal(3, 3, 0, -1), -1);
        Due.is("deal with his OWNER", x.deal(3, 0, 0, -1), -1);
        Due.is("deal for -1", x.deal(3, 1, -1, -1), -1);
        Due.is("deal for 1000000", x.deal(3, 1, 1000000, -1), -1);
        Due.is("deal and -2", x.deal(3, 1, 0, -2), -1);
        Due.is("deal and 6", x.deal(3, 1, 0, 6), -1);
        Due.is("deal and itself", x.deal(3, 1, 0, 0), -1);
        Due.is("chain of none", x.chain(), -1);
        Due.is("deal 0", x.deal(3, 1, 999999, 5), 1);
        Due.is("deal and itself", x.deal(3, 1, 0, 1), -1);
        for (int i = 2; i <= 6; i++) {
            Due.is("deal " + i, x.deal(3, 1, 0, -1), i);
        }
        Due.is("a 7th deal", x.deal(3, 1, 0, -1), -3);
        Due.is("a bad 7th deal", x.deal(3, 0, 0, -1), -1);
        Due.is("chain()", x.chain(), 2);
        Due.is("chain() again", x.chain(), -1);
        Due.is("deal 0 again", x.deal(3, 1, 0, -1), 1);
    }

    private static void chains() {
        PlayerMoves x = made();
        x.deal(3, 1, 60, -1);
        x.deal(4, 2, 10, -1);
        x.deal(5, 0, 10, -1);
        Due.is("all by midnight", x.chain(), 7);
        x.deal(3, 1, 61, -1);
        x.deal(4, 2, 10, -1);
        x.deal(5, 0, 10, -1);
        Due.is("one coin is lacking", x.chain(), 6);
        x.deal(3, 1, 51, -1);
        Due.is("none can be", x.chain(), 0);
        Due.is("DEALS are none then", x.chain(), -1);
        x.deal(3, 1, 20, -1);
        x.deal(3, 1, 10, -1);
        Due.is("no PLAYER twice, the least sum", x.chain(), 2);
        x.deal(3, 1, 10, -1);
        x.deal(3, 1, 10, -1);
        Due.is("the least as bits", x.chain(), 1);
        x.deal(3, 1, 50, 1);
        x.deal(5, 1, 0, 2);
        x.deal(4, 0, 151, -1);
        Due.is("all or none", x.chain(), 0);
        x.deal(3, 1, 50, 1);
        x.deal(5, 1, 0, 2);
        x.deal(4, 0, 150, -1);
        Due.is("all or none", x.chain(), 7);
        x.deal(3, 1, 1, 3);
        x.deal(3, 1, 2, -1);
        Due.is("a DEAL that is not told", x.chain(), 2);
        x.deal(3, 1, 60, -1);
        x.deal(4, 0, 1, 0);
        Due.is("the other one is the first", x.chain(), 0);
        x.deal(3, 1, 0, -1);
        x.deal(4, 0, 0, -1);
        x.days(11);
        Due.is("FREE ones", x.chain(), 0);
        PlayerMoves y = made();
        y.deal(3, 1, 5, -1);
        y.deal(4, 0, 5, -1);
        y.window(0, 0, 5);
        y.term(1, 10);
        y.sell(3, 2);
        Due.is("OWNERS as of chain()", y.chain(), 3);
        y.deal(3, 1, 51, -1);
        y.deal(4, 2, 51, -1);
        Due.is("a FEE that is handed on", y.chain(), 3);
        y.deal(3, 1, 51, -1);
        y.deal(4, 2, 52, -1);
        Due.is("a FEE that is not enough", y.chain(), 0);
    }

    private static void wishes() {
        PlayerMoves x = new PlayerMoves();
        Due.is("rings of none", x.rings(), -1);
        Due.is("gets(0) ahead of rings", x.gets(0), -1);
        Due.is("wish(-1)", x.wish(-1), -1);
        Due.is("wish(256)", x.wish(256), -1);
        Due.is("wish for its own", x.wish(1), -1);
        for (int i = 0; i < 8; i++) {
            Due.is("wish " + i, x.wish(255 - (1 << i)), i + 1);
        }
        Due.is("a 9th wish", x.wish(255), -3);
        Due.is("a bad 9th wish", x.wish(256), -1);
        Due.is("rings()", x.rings(), 8);
        for (int i = 0; i < 8; i++) {
            Due.is("gets(" + i + ")", x.gets(i), i ^ 1);
        }
        Due.is("gets(8)", x.gets(8), -1);
        Due.is("gets(-1)", x.gets(-1), -1);
        Due.is("rings() again", x.rings(), -1);
        Due.is("gets(7) stays", x.gets(7), 6);
    }

    private static void ring(String name, int[] wants, int most, int... gets) {
        PlayerMoves x = new PlayerMoves();
        for (int want : wants) {
            x.wish(want);
        }
        Due.is(name, x.rings(), most);
        for (int i = 0; i < gets.length; i++) {
            Due.is(name + ": gets(" + i + ")", x.gets(i), gets[i]);
        }
        Due.is(name + ": gets beyond", x.gets(gets.length), -1);
    }

    private static void rings() {
        ring("nobody wants", new int[] {0, 0}, 0, -2, -2);
        ring("wishes that were not told", new int[] {254, 252}, 0, -2, -2);
        ring("a swap", new int[] {2, 1}, 2, 1, 0);
        ring("one-sided", new int[] {2, 0}, 0, -2, -2);
        ring("a ring of three rather than a swap", new int[] {6, 5, 1}, 3, 1, 2, 0);
        ring("the first by what each gets", new int[] {6, 1, 1}, 2, 1, 0, -2);
        ring("none last", new int[] {8, 4, 2, 1}, 4, 3, 2, 1, 0);
        ring("none last", new int[] {12, 0, 9, 5}, 3, 2, -2, 3, 0);
        int[] wants = new int[8];
        for (int n = 0; n < 400; n++) {
            int seed = n * 7919 + 13;
            int count = 1 + n % 6;
            int[] told = new int[count];
            for (int i = 0; i < count; i++) {
                seed = seed * 1103515245 + 12345;
                told[i] = (seed >>> 16 & 255) & ~(1 << i) & (n % 3 == 0 ? 255 : seed >>> 8 & 255);
            }
            best = -1;
            search(told, new int[count], 0, 0);
            ring("by trying all " + n, told, best, bestGets);
        }
        Due.is("no wishes left over", wants.length, 8);
    }

    private static int best;
    private static int[] bestGets;

    /** Tries all swaps, in the order by what each wish gets. */
    private static void search(int[] wants, int[] gets, int i, int given) {
        if (i == wants.length) {
            int most = 0;
            for (int k = 0; k < i; k++) {
                if (gets[k] < 0 && (given >> k & 1) != 0) {
                    return;
                }
                if (gets[k] >= 0 && (given >> k & 1) == 0) {
                    return;
                }
                most += gets[k] >= 0 ? 1 : 0;
            }
            if (most > best) {
                best = most;
                bestGets = gets.clone();
            }
            return;
        }
        for (int j = 0; j < wants.length; j++) {
            if ((wants[i] >> j & 1) != 0 && (given >> j & 1) == 0) {
                gets[i] = j;
                search(wants, gets, i + 1, given | 1 << j);
            }
        }
        gets[i] = -2;
        search(wants, gets, i + 1, given);
    }

    private static void candidates() {
        PlayerMoves x = new PlayerMoves();
        int[] bad = {-1, 4, 9, 20, 14, 99, 124, 1000000, Integer.MAX_VALUE, Integer.MIN_VALUE};
        for (int what : bad) {
            Due.is("candidate(" + what + ", 0)", x.candidate(what, 0), -1);
        }
        Due.is("candidate worth -1", x.candidate(0, -1), -1);
        Due.is("candidate worth 100000", x.candidate(0, 100000), -1);
        Due.is("buys of none", x.buys(0, 100, 0), -1);
        Due.is("candidate(999913, 99999)", x.candidate(999913, 99999), 1);
        for (int i = 2; i <= 10; i++) {
            Due.is("candidate " + i, x.candidate(0, 0), i);
        }
        Due.is("an 11th candidate", x.candidate(0, 0), -3);
        Due.is("a bad 11th candidate", x.candidate(4, 0), -1);
        Due.is("buys(-1, 100, 0)", x.buys(-1, 100, 0), -1);
        Due.is("buys(10000000, 100, 0)", x.buys(10000000, 100, 0), -1);
        Due.is("buys(0, -1, 0)", x.buys(0, -1, 0), -1);
        Due.is("buys(0, 110, 0)", x.buys(0, 110, 0), -1);
        Due.is("buys(0, 100, -1)", x.buys(0, 100, -1), -1);
        Due.is("buys(0, 100, 10000)", x.buys(0, 100, 10000), -1);
        Due.is("buys(9999999, 100, 0)", x.buys(9999999, 100, 0), 1);
        Due.is("candidates are none then", x.buys(9999999, 100, 0), -1);
    }

    private static int buy(PlayerMoves x, int purse, int most, int least, int... told) {
        for (int i = 0; i < told.length; i += 2) {
            x.candidate(told[i], told[i + 1]);
        }
        return x.buys(purse, most, least);
    }

    private static void buys() {
        PlayerMoves x = new PlayerMoves();
        Due.is("the greatest WORTH", buy(x, 100, 100, 0, 6000, 10, 5000, 9, 5000, 9), 6);
        Due.is("under the purse", buy(x, 99, 100, 0, 6000, 10, 5000, 9, 5000, 9), 1);
        Due.is("the least price", buy(x, 100, 100, 0, 6000, 10, 5000, 10, 5000, 0), 2);
        Due.is("the least bits", buy(x, 100, 100, 0, 6000, 10, 6000, 10, 6000, 10), 1);
        Due.is("the least bits of nothing", buy(x, 100, 100, 0, 0, 0, 0, 0), 0);
        Due.is("at most 2", buy(x, 100, 20, 0, 0, 1, 0, 2, 0, 3), 6);
        Due.is("at most 0", buy(x, 100, 0, 0, 0, 1), 0);
        Due.is("at most 0, one at least", buy(x, 100, 1, 0, 10, 1), -2);
        Due.is("candidates are none by NOT, too", x.buys(100, 1, 0), -1);
        Due.is("HOME GROWN ones", buy(x, 100, 11, 0, 0, 9, 10, 1, 10, 2), 4);
        Due.is("nine HOME GROWN ones", buy(x, 100, 109, 0, 10, 1), -2);
        Due.is("a HOME GROWN one with a price", buy(x, 100, 101, 0, 5010, 1), 1);
        Due.is("two HOME GROWN ones with prices", buy(x, 200, 102, 0, 5010, 1, 10010, 1, 9000, 5), 3);
        Due.is("none HOME GROWN with a price", buy(x, 100, 101, 0, 9903, 1), -2);
        Due.is("an empty purse", buy(x, 0, 100, 0, 100, 9, 0, 1), 2);
        Due.is("place 0", buy(x, 100, 10, 1000, 0, 1, 1, 9, 2, 9, 3, 9), 1);
        Due.is("place 1", buy(x, 100, 10, 100, 0, 9, 1, 1, 2, 9, 3, 9), 2);
        Due.is("place 2", buy(x, 100, 10, 10, 0, 9, 1, 9, 2, 1, 3, 9), 4);
        Due.is("place 3", buy(x, 100, 10, 1, 0, 9, 1, 9, 2, 9, 3, 1), 8);
        Due.is("two of place 3", buy(x, 100, 100, 2, 3, 1, 9900, 1, 3, 1), 7);
        Due.is("two of place 3 are not there", buy(x, 100, 100, 2, 3, 1, 0, 1), -2);
        Due.is("too dear", buy(x, 99, 100, 1, 10003, 1), -2);
        Due.is("as dear as the purse", buy(x, 100, 100, 1, 10003, 1), 1);
    }

    private static void claims() {
        PlayerMoves x = new PlayerMoves();
        Due.is("claim(-1, 1)", x.claim(-1, 1), -1);
        Due.is("claim(4, 1)", x.claim(4, 1), -1);
        Due.is("claim(0, 0)", x.claim(0, 0), -1);
        Due.is("claim(0, 1000000)", x.claim(0, 1000000), -1);
        Due.is("part of none", x.part(1), -1);
        for (int i = 1; i <= 12; i++) {
            Due.is("claim " + i, x.claim(3, 999999), i);
        }
        Due.is("a 13th claim", x.claim(0, 1), -3);
        Due.is("a bad 13th claim", x.claim(4, 1), -1);
        Due.is("part(-1)", x.part(-1), -1);
        Due.is("part(10000000)", x.part(10000000), -1);
        Due.is("got(0) ahead", x.got(0), -1);
        Due.is("part(9999999)", x.part(9999999), 9999999);
        for (int i = 0; i < 12; i++) {
            Due.is("got(" + i + ")", x.got(i), i < 3 ? 833334 : 833333);
        }
        Due.is("got(12)", x.got(12), -1);
        Due.is("got(-1)", x.got(-1), -1);
        Due.is("part again", x.part(1), -1);
        Due.is("got(11) stays", x.got(11), 833333);
    }

    private static void parted(int assets, int paid, int[] told, int... gets) {
        PlayerMoves x = new PlayerMoves();
        for (int i = 0; i < told.length; i += 2) {
            x.claim(told[i], told[i + 1]);
        }
        Due.is("part(" + assets + ")", x.part(assets), paid);
        for (int i = 0; i < gets.length; i++) {
            Due.is("part(" + assets + "): got(" + i + ")", x.got(i), gets[i]);
        }
        Due.is("part(" + assets + "): got beyond", x.got(gets.length), -1);
    }

    private static void parts() {
        parted(0, 0, new int[] {0, 5}, 0);
        parted(1000, 11, new int[] {3, 5, 0, 6}, 5, 6);
        parted(11, 11, new int[] {3, 5, 0, 6}, 5, 6);
        parted(10, 10, new int[] {3, 5, 0, 6}, 4, 6);
        parted(6, 6, new int[] {3, 5, 0, 6}, 0, 6);
        parted(5, 5, new int[] {3, 5, 0, 6}, 0, 5);
        parted(10, 10, new int[] {1, 7, 1, 7, 1, 7}, 4, 3, 3);
        parted(11, 11, new int[] {1, 7, 1, 7, 1, 7}, 4, 4, 3);
        parted(10, 10, new int[] {1, 10, 1, 20, 1, 3}, 3, 6, 1);
        parted(2, 2, new int[] {1, 1, 1, 1, 1, 2}, 1, 0, 1);
        parted(7, 7, new int[] {2, 5, 1, 2, 0, 4, 2, 5}, 1, 2, 4, 0);
        PlayerMoves x = new PlayerMoves();
        x.claim(0, 5);
        x.part(5);
        x.claim(0, 5);
        x.claim(0, 5);
        Due.is("got while others are told", x.got(0), 5);
        Due.is("got(1) while others are told", x.got(1), -1);
        x.part(1);
        Due.is("got(0) of the latest", x.got(0), 1);
        Due.is("got(1) of the latest", x.got(1), 0);
    }
}
