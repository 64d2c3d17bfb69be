/** The edges of promises 32 to 41, and of section 6 of the Terms. */
final class EdgesChoices {
    private static final int BAD = PlayerMoves.BAD, NOT = PlayerMoves.NOT, FULL = PlayerMoves.FULL;
    private static final int MIN = Integer.MIN_VALUE, MAX = Integer.MAX_VALUE;
    private static final int[] NO_CLUBS = {-1, 3, 4, 8, 9, 10, 150, MAX, MIN};
    private static final int[] NO_PLAYERS = {-1, 0, 1, 2, 3, 8, 9, 10, 150, MAX, MIN};

    private EdgesChoices() {
    }

    static void all() {
        p32DealBad();
        p32DealFull();
        p33Chain();
        p34Wish();
        p35Rings();
        p36Gets();
        p37Candidate();
        p38BuysBad();
        p38BuysNone();
        p39Claim();
        p40Part();
        p41Got();
        t6ChainCoins();
        t6ChainOwners();
        t6ChainBest();
        t6ChainOther();
        t6Rings();
        t6RingsOrder();
        t6Buys();
        t6BuysBest();
        t6Claims();
    }

    private static void p32DealBad() {
        Edge.p(32, "A DEAL (fee 0 .. 999999): how many. BAD (FREE PLAYERS; his OWNER as buyer; other -1 .. 5, not itself)");
        for (int who : NO_PLAYERS) {
            Edge.no("deal(" + who + ", 0, 5, -1)", x -> x.deal(who, 0, 5, -1), BAD);
        }
        for (int club : NO_CLUBS) {
            Edge.no("deal(4, " + club + ", 5, -1)", x -> x.deal(4, club, 5, -1), BAD);
        }
        Edge.no("deal(7, 0, 5, -1) of a FREE one", x -> x.deal(7, 0, 5, -1), BAD);
        Edge.no("deal(4, 1, 5, -1) to his OWNER", x -> x.deal(4, 1, 5, -1), BAD);
        Edge.no("deal(5, 1, 5, -1) of a lent one to his OWNER", x -> x.deal(5, 1, 5, -1), BAD);
        int[] fees = {-1, 1000000, MAX, MIN};
        for (int fee : fees) {
            Edge.no("deal(4, 0, " + fee + ", -1)", x -> x.deal(4, 0, fee, -1), BAD);
        }
        int[] others = {-2, 6, 2, MAX, MIN};
        for (int other : others) {
            Edge.no("deal(4, 0, 5, " + other + "), the third", x -> x.deal(4, 0, 5, other), BAD);
        }
        PlayerMoves x = Worlds.busy();
        Edge.is("deal(5, 0, 5, -1) of a lent one to the borrower", x.deal(5, 0, 5, -1), 3);
        Edge.is("deal and itself, the fourth", x.deal(4, 0, 5, 3), BAD);
        Edge.is("deal for 0 and 2", x.deal(4, 0, 0, 2), 4);
        Edge.is("deal for 999999 and 5", x.deal(4, 2, 999999, 5), 5);
        Edge.is("deal and itself, the sixth", x.deal(4, 2, 999999, 5), BAD);
        Edge.is("deal and 4", x.deal(4, 2, 999999, 4), 6);
        PlayerMoves y = Worlds.fresh();
        y.club(5, 0, 0);
        y.club(5, 0, 0);
        y.player(2, 0, 0, -1);
        y.sign(2, 0, 1, 0);
        Edge.is("deal and itself, the first", y.deal(2, 1, 0, 0), BAD);
        y.days(1);
        Edge.is("on the CONTRACT's last DAY", y.deal(2, 1, 0, -1), 1);
        y.days(1);
        Edge.is("behind it he is FREE", y.deal(2, 1, 0, -1), BAD);
    }

    private static void p32DealFull() {
        Edge.p(32, "FULL: 6.");
        Edge.no("deal(4, 0, 5, -1) when FULL", Worlds::fullChoices, x -> x.deal(4, 0, 5, -1), FULL);
        Edge.no("deal(5, 2, 5, 5) when FULL", Worlds::fullChoices, x -> x.deal(5, 2, 5, 5), FULL);
        Edge.no("deal(4, 1, 5, -1) to his OWNER when FULL", Worlds::fullChoices, x -> x.deal(4, 1, 5, -1), BAD);
        Edge.no("deal(4, 0, 5, 6) when FULL", Worlds::fullChoices, x -> x.deal(4, 0, 5, 6), BAD);
        Edge.no("deal(7, 0, 5, -1) of a FREE one when FULL", Worlds::fullChoices, x -> x.deal(7, 0, 5, -1), BAD);
        PlayerMoves x = Worlds.fresh();
        x.club(5, 0, 0);
        x.club(5, 0, 0);
        x.player(2, 0, 0, -1);
        x.sign(2, 0, 1, 0);
        for (int n = 1; n <= 6; n++) {
            Edge.is("DEAL " + n, x.deal(2, 1, 0, n == 6 ? 0 : 5), n);
        }
        Edge.is("DEAL 7", x.deal(2, 1, 0, 5), FULL);
        Edge.is("one that needs one with the same PLAYER", x.chain(), 0);
        Edge.is("DEALS are none then", x.deal(2, 1, 0, -1), 1);
    }

    private static void p33Chain() {
        Edge.p(33, "CHAIN: the set as bits (0: none can be; a DEAL that is not told can't happen). BAD: none is told. (DEALS are none then.)");
        Edge.no("chain() of none", Worlds::fresh, x -> x.chain(), BAD);
        PlayerMoves x = Worlds.busy();
        Edge.is("chain()", x.chain(), 3);
        Edge.is("chain() again", x.chain(), BAD);
        x.deal(4, 0, 5, 1);
        Edge.is("the other one is not told", x.chain(), 0);
        Edge.is("DEALS are none then", x.chain(), BAD);
        x.deal(4, 0, 999999, -1);
        Edge.is("too dear", x.chain(), 0);
        Edge.is("DEALS are none then", x.chain(), BAD);
        for (int i = 0; i < 6; i++) {
            x.deal(i < 3 ? 4 + i : 4, i == 2 ? 1 : i == 1 ? 2 : 0, 1, -1);
        }
        Edge.is("the first three of six", x.chain(), 7);
        x.deal(4, 0, 1, 5);
        for (int i = 1; i < 5; i++) {
            x.deal(4, 0, 1, i - 1);
        }
        x.deal(5, 2, 1, 0);
        Edge.is("the first and the last of six", x.chain(), 33);
    }

    private static void p34Wish() {
        Edge.p(34, "A WISH that wants others (bits 0 .. 255, not its own): how many. BAD; FULL: 8.");
        int[] bad = {-1, 256, 4, 255, 7, MAX, MIN};
        for (int wants : bad) {
            Edge.no("wish(" + wants + "), the third", x -> x.wish(wants), BAD);
        }
        int[] badAnyhow = {-1, 256, MAX, MIN};
        for (int wants : badAnyhow) {
            Edge.no("wish(" + wants + ") when FULL", Worlds::fullChoices, x -> x.wish(wants), BAD);
        }
        int[] full = {0, 255, 128, 1};
        for (int wants : full) {
            Edge.no("wish(" + wants + ") when FULL", Worlds::fullChoices, x -> x.wish(wants), FULL);
        }
        PlayerMoves x = Worlds.fresh();
        for (int i = 0; i < 8; i++) {
            Edge.is("its own alone, wish " + i, x.wish(1 << i), BAD);
            Edge.is("all and its own, wish " + i, x.wish(255), BAD);
            Edge.is("wish " + i, x.wish(i % 2 == 0 ? 255 - (1 << i) : 0), i + 1);
        }
        Edge.is("wish 8", x.wish(0), FULL);
    }

    private static void p35Rings() {
        Edge.p(35, "RINGS: how many take part. BAD: none is told. (WISHES are none then; bits of such as were not told don't count.)");
        Edge.no("rings() of none", Worlds::fresh, x -> x.rings(), BAD);
        PlayerMoves x = Worlds.busy();
        Edge.is("rings()", x.rings(), 2);
        Edge.is("rings() again", x.rings(), BAD);
        x.wish(254);
        Edge.is("such as were not told", x.rings(), 0);
        Edge.is("rings() again", x.rings(), BAD);
        x.wish(254);
        x.wish(1);
        Edge.is("one of such as were told", x.rings(), 2);
        Edge.is("gets(0)", x.gets(0), 1);
        x.wish(0);
        Edge.is("WISHES are none then", x.wish(2), BAD);
        Edge.is("WISHES are none then", x.wish(1), 2);
        Edge.is("who wants none takes no part", x.rings(), 0);
        for (int i = 0; i < 8; i++) {
            x.wish(1 << (i + 1) % 8);
        }
        Edge.is("one ring of 8", x.rings(), 8);
        Edge.is("gets(7)", x.gets(7), 0);
    }

    private static void p36Gets() {
        Edge.p(36, "Whose PLAYER WISH i got by the latest rings() that was not BAD; NOT: none. BAD.");
        int[] bad = {-1, 3, 8, MAX, MIN};
        for (int i : bad) {
            Edge.no("gets(" + i + ")", x -> x.gets(i), BAD);
        }
        Edge.no("gets(0)", x -> x.gets(0), 1);
        Edge.no("gets(1)", x -> x.gets(1), 0);
        Edge.no("gets(2)", x -> x.gets(2), NOT);
        PlayerMoves x = Worlds.busy();
        x.rings();
        Edge.is("of the next two: gets(1)", x.gets(1), 0);
        Edge.is("of the next two: gets(2)", x.gets(2), BAD);
        x.rings();
        Edge.is("rings() that was BAD: gets(1)", x.gets(1), 0);
        x.wish(0);
        x.wish(0);
        x.wish(0);
        Edge.is("while WISHES are told: gets(2)", x.gets(2), BAD);
        x.rings();
        Edge.is("gets(2)", x.gets(2), NOT);
        Edge.is("gets(3)", x.gets(3), BAD);
        PlayerMoves y = Worlds.fullChoices();
        y.rings();
        Edge.is("of 8: gets(7)", y.gets(7), NOT);
        Edge.is("of 8: gets(8)", y.gets(8), BAD);
        Edge.is("ahead of all: gets(0)", Worlds.fresh().gets(0), BAD);
    }

    private static void p37Candidate() {
        Edge.p(37, "A candidate: how many. what: 100 times the price (0 .. 9999), 10 times HOME GROWN (1, 0), and a place (0 .. 3). BAD; FULL: 10.");
        int[] bad = {-1, -100, 4, 9, 14, 19, 20, 33, 90, 99, 104, 120, 999914, 999920, 1000000, MAX, MIN};
        for (int what : bad) {
            Edge.no("candidate(" + what + ", 5)", x -> x.candidate(what, 5), BAD);
            Edge.no("candidate(" + what + ", 5) when FULL", Worlds::fullChoices, x -> x.candidate(what, 5), BAD);
        }
        int[] worths = {-1, 100000, MAX, MIN};
        for (int worth : worths) {
            Edge.no("candidate(0, " + worth + ")", x -> x.candidate(0, worth), BAD);
            Edge.no("candidate(0, " + worth + ") when FULL", Worlds::fullChoices, x -> x.candidate(0, worth), BAD);
        }
        Edge.no("candidate(0, 5) when FULL", Worlds::fullChoices, x -> x.candidate(0, 5), FULL);
        PlayerMoves x = Worlds.fresh();
        int[] good = {0, 1, 2, 3, 10, 13, 100, 999900, 999910, 999913};
        for (int i = 0; i < 10; i++) {
            Edge.is("candidate(" + good[i] + ", " + (i % 2 * 99999) + ")", x.candidate(good[i], i % 2 * 99999), i + 1);
        }
        Edge.is("candidate 11", x.candidate(0, 0), FULL);
        Edge.is("those of any WORTH under any purse", x.buys(9999999, 100, 0), 2 + 8 + 32 + 128 + 512);
    }

    private static void p38BuysBad() {
        Edge.p(38, "most: 10 times how many at most (0 .. 10), and HOME GROWN ones at least (0 .. 9); least: four digits, of place 0 first. BAD: purse not"
            + " 0 .. 9999999, also none told; NOT.");
        int[][] bad = {{-1, 100, 0}, {10000000, 100, 0}, {MAX, 100, 0}, {MIN, 100, 0}, {5, -1, 0}, {5, 110, 0}, {5, MAX, 0}, {5, MIN, 0}, {5, 100, -1},
            {5, 100, 10000}, {5, 100, MAX}, {5, 100, MIN}};
        for (int[] w : bad) {
            Edge.no("buys(" + w[0] + ", " + w[1] + ", " + w[2] + ")", x -> x.buys(w[0], w[1], w[2]), BAD);
        }
        Edge.no("buys(5, 100, 0) of none", Worlds::fresh, x -> x.buys(5, 100, 0), BAD);
        Edge.no("buys(5, 9, 9999) of none", Worlds::fresh, x -> x.buys(5, 9, 9999), BAD);
        Edge.is("buys(9999999, 100, 0)", Worlds.busy().buys(9999999, 100, 0), 3);
        Edge.is("buys(30, 100, 0)", Worlds.busy().buys(30, 100, 0), 3);
        Edge.is("buys(29, 100, 0)", Worlds.busy().buys(29, 100, 0), 2);
        Edge.is("buys(19, 100, 0)", Worlds.busy().buys(19, 100, 0), 1);
        Edge.is("buys(9, 100, 0)", Worlds.busy().buys(9, 100, 0), 0);
        Edge.is("buys(0, 0, 0)", Worlds.busy().buys(0, 0, 0), 0);
        Edge.is("buys(99, 20, 0)", Worlds.busy().buys(99, 20, 0), 3);
        Edge.is("buys(99, 10, 0)", Worlds.busy().buys(99, 10, 0), 2);
        Edge.is("buys(99, 11, 0)", Worlds.busy().buys(99, 11, 0), 1);
        Edge.is("buys(99, 109, 0)", Worlds.busy().buys(99, 109, 0), NOT);
        Edge.is("buys(99, 102, 0)", Worlds.busy().buys(99, 102, 0), NOT);
        Edge.is("buys(99, 100, 9999)", Worlds.busy().buys(99, 100, 9999), NOT);
        Edge.is("buys(99, 100, 110)", Worlds.busy().buys(99, 100, 110), 3);
        Edge.is("buys(99, 10, 110)", Worlds.busy().buys(99, 10, 110), NOT);
        Edge.is("buys(99, 10, 100)", Worlds.busy().buys(99, 10, 100), 1);
        Edge.is("buys(99, 100, 1000)", Worlds.busy().buys(99, 100, 1000), NOT);
        Edge.is("buys(99, 100, 1)", Worlds.busy().buys(99, 100, 1), NOT);
        Edge.is("buys(99, 100, 20)", Worlds.busy().buys(99, 100, 20), NOT);
    }

    private static void p38BuysNone() {
        Edge.p(38, "(Candidates are none then, but if BAD.)");
        PlayerMoves x = Worlds.busy();
        x.buys(99, 100, 0);
        Edge.is("behind a set", x.buys(99, 100, 0), BAD);
        Edge.is("candidates are none then", x.candidate(0, 0), 1);
        Edge.is("NOT", x.buys(99, 100, 9999), NOT);
        Edge.is("behind NOT", x.buys(99, 100, 0), BAD);
        Edge.is("candidates are none then", x.candidate(3, 4), 1);
        Edge.is("BAD", x.buys(-1, 100, 0), BAD);
        Edge.is("behind BAD", x.candidate(3, 4), 2);
        Edge.is("both", x.buys(0, 100, 2), 3);
    }

    private static void p39Claim() {
        Edge.p(39, "A claim of a RANK: how many. BAD (coins 1 .. 999999); FULL: 12.");
        int[][] bad = {{-1, 5}, {4, 5}, {MAX, 5}, {MIN, 5}, {0, 0}, {0, -1}, {0, 1000000}, {3, MAX}, {3, MIN}};
        for (int[] w : bad) {
            Edge.no("claim(" + w[0] + ", " + w[1] + ")", x -> x.claim(w[0], w[1]), BAD);
            Edge.no("claim(" + w[0] + ", " + w[1] + ") when FULL", Worlds::fullChoices, x -> x.claim(w[0], w[1]), BAD);
        }
        Edge.no("claim(0, 1) when FULL", Worlds::fullChoices, x -> x.claim(0, 1), FULL);
        Edge.no("claim(3, 999999) when FULL", Worlds::fullChoices, x -> x.claim(3, 999999), FULL);
        PlayerMoves x = Worlds.fresh();
        for (int i = 0; i < 12; i++) {
            Edge.is("claim " + i, x.claim(i % 4, i % 2 == 0 ? 1 : 999999), i + 1);
        }
        Edge.is("claim 12", x.claim(0, 1), FULL);
        Edge.is("part(9999999)", x.part(9999999), 6 + 6 * 999999);
    }

    private static void p40Part() {
        Edge.p(40, "Assets (0 .. 9999999) are parted: what is paid. BAD: no claim. (Claims are none then.)");
        int[] bad = {-1, 10000000, MAX, MIN};
        for (int assets : bad) {
            Edge.no("part(" + assets + ")", x -> x.part(assets), BAD);
            Edge.no("part(" + assets + ") without a claim", Worlds::fresh, x -> x.part(assets), BAD);
        }
        Edge.no("part(5) without a claim", Worlds::fresh, x -> x.part(5), BAD);
        Edge.no("part(0) without a claim", Worlds::fresh, x -> x.part(0), BAD);
        int[][] due = {{0, 0}, {1, 1}, {1099, 1099}, {1100, 1100}, {1101, 1100}, {9999999, 1100}};
        for (int[] w : due) {
            PlayerMoves x = Worlds.busy();
            Edge.is("part(" + w[0] + ")", x.part(w[0]), w[1]);
            Edge.is("claims are none then", x.part(w[0]), BAD);
            Edge.is("claims are none then", x.claim(0, 1), 1);
        }
    }

    private static void p41Got() {
        Edge.p(41, "What claim i got by the latest part(). BAD.");
        int[] bad = {-1, 2, 12, MAX, MIN};
        for (int i : bad) {
            Edge.no("got(" + i + ")", x -> x.got(i), BAD);
        }
        Edge.no("got(0)", x -> x.got(0), 15);
        Edge.no("got(1)", x -> x.got(1), 30);
        Edge.no("got(0) ahead of all", Worlds::fresh, x -> x.got(0), BAD);
        PlayerMoves x = Worlds.busy();
        x.part(-1);
        Edge.is("behind a BAD one: got(0)", x.got(0), 15);
        x.part(0);
        Edge.is("nothing: got(0)", x.got(0), 0);
        Edge.is("nothing: got(1)", x.got(1), 0);
        x.part(9);
        Edge.is("behind a BAD one: got(1)", x.got(1), 0);
        x.claim(0, 9);
        x.part(9);
        Edge.is("of one: got(0)", x.got(0), 9);
        Edge.is("of one: got(1)", x.got(1), BAD);
        PlayerMoves y = Worlds.fullChoices();
        y.part(9999999);
        Edge.is("of 12: got(11)", y.got(11), 7);
        Edge.is("of 12: got(12)", y.got(12), BAD);
    }

    /** Clubs 0, 1, 2 with 100, 50, 0 COINS; players 3, 4, 5 of theirs up to DAY 10. */
    private static PlayerMoves three() {
        PlayerMoves x = new PlayerMoves();
        x.club(5, 0, 100);
        x.club(5, 0, 50);
        x.club(7, 0, 0);
        for (int i = 0; i < 3; i++) {
            x.player(2, 0, 0, -1);
            x.sign(3 + i, i, 10, 0);
        }
        return x;
    }

    /** The chain of DEALS told as PLAYER, CLUB, FEE, other. */
    private static int chain(PlayerMoves x, int[]... deals) {
        for (int[] d : deals) {
            x.deal(d[0], d[1], d[2], d[3]);
        }
        return x.chain();
    }

    private static int[] of(int... values) {
        return values;
    }

    private static void t6ChainCoins() {
        Edge.t(6, "all buyers' COINS, with FEES of the set that come to them as sellers (all by midnight), are enough for theirs (0 or more are left)");
        PlayerMoves x = three();
        Edge.is("0 is left", chain(x, of(3, 1, 50, -1)), 1);
        Edge.is("one is lacking", chain(x, of(3, 1, 51, -1)), 0);
        Edge.is("with a FEE that comes, 0 is left", chain(x, of(3, 1, 60, -1), of(4, 0, 10, -1)), 3);
        Edge.is("with a FEE that comes, one is lacking", chain(x, of(3, 1, 61, -1), of(4, 0, 10, -1)), 2);
        Edge.is("the FEE that comes is told last", chain(x, of(5, 0, 0, -1), of(3, 2, 50, -1), of(5, 1, 50, -1)), 6);
        Edge.is("two of one buyer, 0 is left", chain(x, of(4, 0, 40, -1), of(5, 0, 60, -1)), 3);
        Edge.is("two of one buyer, one is lacking", chain(x, of(4, 0, 41, -1), of(5, 0, 60, -1)), 1);
        Edge.is("nothing for nothing", chain(x, of(3, 2, 0, -1)), 1);
        Edge.is("the seller need not have any", chain(x, of(5, 0, 100, -1)), 1);
        PlayerMoves y = Worlds.market();
        y.term(0, 1000);
        y.sell(4, 1);
        Edge.is("COINS below 0: 0 or more are not left", chain(y, of(5, 1, 0, -1)), 0);
        Edge.is("with a FEE that comes, 0 is left", chain(y, of(5, 1, 0, -1), of(4, 2, 30, -1)), 3);
        Edge.is("with a FEE that comes, one is lacking", chain(y, of(5, 1, 0, -1), of(4, 2, 29, -1)), 2);
        Edge.is("who is below 0, but no buyer", chain(y, of(4, 2, 0, -1)), 1);
    }

    private static void t6ChainOwners() {
        Edge.t(6, "(OWNERS as of chain(); of a FREE one it can't happen)");
        PlayerMoves x = three();
        x.deal(3, 1, 1, -1);
        x.deal(4, 0, 1, -1);
        x.days(10);
        Edge.is("on the CONTRACTS' last DAY", x.chain(), 3);
        PlayerMoves y = three();
        y.deal(3, 1, 1, -1);
        y.deal(4, 0, 1, -1);
        y.days(11);
        Edge.is("behind it they are FREE", y.chain(), 0);
        PlayerMoves z = three();
        z.deal(3, 1, 50, -1);
        z.deal(4, 2, 20, -1);
        z.days(11);
        z.sign(3, 2, 2999, 0);
        z.sign(4, 0, 2999, 0);
        Edge.is("the FEE comes to the new OWNER", z.chain(), 3);
        Edge.is("and not to the one ahead", chain(z, of(3, 1, 51, -1), of(4, 2, 51, -1)), 0);
    }

    private static void t6ChainBest() {
        Edge.t(6, "most DEALS; of several the least sum of FEES; of several the least as bits.");
        PlayerMoves x = three();
        Edge.is("most DEALS", chain(x, of(3, 1, 0, -1), of(3, 2, 0, 2), of(5, 0, 9, -1), of(4, 0, 9, -1)), 13);
        Edge.is("no PLAYER twice", chain(x, of(3, 1, 5, -1), of(3, 2, 0, -1)), 2);
        Edge.is("the least sum of FEES", chain(x, of(3, 1, 5, -1), of(3, 1, 4, -1), of(3, 1, 4, -1)), 2);
        Edge.is("the least as bits", chain(x, of(3, 1, 4, -1), of(3, 1, 4, -1), of(3, 1, 5, -1)), 1);
        Edge.is("the least as bits of two", chain(x, of(3, 1, 4, -1), of(5, 1, 4, -1), of(5, 1, 4, -1), of(3, 1, 4, -1)), 3);
        Edge.is("the sum ahead of the bits", chain(x, of(3, 1, 4, -1), of(5, 1, 4, -1), of(5, 1, 3, -1), of(3, 1, 4, -1)), 5);
        Edge.is("most DEALS ahead of the sum", chain(x, of(3, 1, 4, -1), of(4, 2, 0, -1), of(5, 0, 40, -1)), 7);
    }

    private static void t6ChainOther() {
        Edge.t(6, "DEALS told (1 .. 6): each a PLAYER, a CLUB that buys him for a FEE, and another DEAL of the list that must happen, too (-1: none).");
        PlayerMoves x = three();
        Edge.is("one DEAL", chain(x, of(3, 1, 1, -1)), 1);
        Edge.is("an other one that happens", chain(x, of(3, 1, 1, 1), of(4, 0, 1, -1)), 3);
        Edge.is("an other one that can't", chain(x, of(3, 1, 1, 1), of(4, 0, 999, -1)), 0);
        Edge.is("the other way round", chain(x, of(3, 1, 1, -1), of(4, 0, 999, 0)), 1);
        Edge.is("each the other's", chain(x, of(3, 1, 1, 1), of(4, 0, 1, 0)), 3);
        Edge.is("one behind the other", chain(x, of(3, 1, 1, 1), of(4, 0, 1, 2), of(5, 0, 1, 5)), 0);
        Edge.is("the other one is 5", chain(x, of(3, 1, 1, 5), of(4, 0, 1, 0), of(4, 0, 1, 1), of(4, 0, 1, 2), of(4, 0, 1, 3), of(5, 0, 1, -1)), 35);
        Edge.is("DEAL 5 that is not told", chain(x, of(3, 1, 1, 5), of(4, 0, 1, -1)), 2);
        Edge.is("six DEALS that can't", chain(x, of(3, 1, 51, -1), of(3, 1, 52, -1), of(3, 1, 53, -1), of(3, 2, 1, -1), of(3, 2, 2, -1), of(3, 2, 3, -1)), 0);
    }

    private static void rings(String when, int most, int[] wants, int... gets) {
        PlayerMoves x = Worlds.fresh();
        for (int w : wants) {
            x.wish(w);
        }
        Edge.is(when, x.rings(), most);
        for (int i = 0; i < gets.length; i++) {
            Edge.is(when + ": gets(" + i + ")", x.gets(i), gets[i]);
        }
        Edge.is(when + ": gets beyond", x.gets(gets.length), BAD);
    }

    private static void t6Rings() {
        Edge.t(6, "RINGS: WISHES told (1 .. 8): a CLUB gives a PLAYER (whose OWNER it is) for another told CLUB's one: WISH i wants the PLAYERS of some others (bits).");
        rings("one WISH", 0, of(2), NOT);
        rings("one WISH that wants none", 0, of(0), NOT);
        rings("a swap", 2, of(2, 1), 1, 0);
        rings("one that is not wanted", 2, of(2, 1, 3), 1, 0, NOT);
        rings("one that wants one who does not give", 0, of(2, 0), NOT, NOT);
        rings("a ring of 8 the other way", 8, of(128, 1, 2, 4, 8, 16, 32, 64), 7, 0, 1, 2, 3, 4, 5, 6);
        rings("four swaps", 8, of(128, 64, 32, 16, 8, 4, 2, 1), 7, 6, 5, 4, 3, 2, 1, 0);
        rings("the last two of 8", 2, of(0, 0, 0, 0, 0, 0, 128, 64), NOT, NOT, NOT, NOT, NOT, NOT, 7, 6);
        rings("none of 8", 0, of(2, 4, 8, 16, 32, 64, 128, 0), NOT, NOT, NOT, NOT, NOT, NOT, NOT, NOT);
    }

    private static void t6RingsOrder() {
        Edge.t(6, "Swaps: each WISH that takes part gets just one that it wants, and gives its own; most take part; of several the first by what each WISH gets (by"
            + " numbers; the lesser first, none last).");
        rings("most take part", 3, of(6, 1, 2), 2, 0, 1);
        rings("the lesser first", 3, of(6, 5, 3), 1, 2, 0);
        rings("none last", 2, of(4, 4, 3), 2, NOT, 0);
        rings("the first one gets the lesser", 2, of(6, 1, 1), 1, 0, NOT);
        rings("the second one gets the lesser", 4, of(2, 13, 9, 4), 1, 0, 3, 2);
        rings("most ahead of the lesser", 4, of(10, 1, 2, 4), 3, 0, 1, 2);
        rings("all want all", 5, of(30, 29, 27, 23, 15), 1, 0, 3, 4, 2);
    }

    private static int buys(int purse, int most, int least, int... told) {
        PlayerMoves x = Worlds.fresh();
        for (int i = 0; i < told.length; i += 2) {
            x.candidate(told[i], told[i + 1]);
        }
        return x.buys(purse, most, least);
    }

    private static void t6Buys() {
        Edge.t(6, "BUYS: candidates told (1 .. 10): a price, WORTH, HOME GROWN or not, a place 0 .. 3; a purse, how many at most, how many of place 0 .. 3 at least"
            + " (told as digits), HOME GROWN ones at least");
        Edge.is("one candidate", buys(0, 100, 0, 0, 1), 1);
        Edge.is("one too dear", buys(0, 100, 0, 100, 1), 0);
        Edge.is("all 10", buys(10, 100, 0, 100, 1, 101, 1, 102, 1, 103, 1, 110, 1, 111, 1, 112, 1, 113, 1, 100, 1, 100, 1), 1023);
        Edge.is("9 of 10", buys(10, 90, 0, 100, 1, 101, 1, 102, 1, 103, 1, 110, 1, 111, 1, 112, 1, 113, 1, 100, 1, 100, 1), 511);
        Edge.is("9 of 10 by the purse", buys(9, 100, 0, 100, 1, 101, 1, 102, 1, 103, 1, 110, 1, 111, 1, 112, 1, 113, 1, 100, 1, 100, 1), 511);
        Edge.is("the dearest", buys(9999, 10, 0, 999900, 1), 1);
        Edge.is("a coin too dear", buys(9998, 10, 0, 999900, 1), 0);
        for (int place = 0; place < 4; place++) {
            int digit = place == 0 ? 1000 : place == 1 ? 100 : place == 2 ? 10 : 1;
            Edge.is("2 of place " + place, buys(9, 100, 2 * digit, 100 + place, 1, 900 + place, 0), NOT);
            Edge.is("2 of place " + place + " are enough", buys(10, 100, 2 * digit, 100 + place, 1, 900 + place, 0), 3);
            Edge.is("3 of place " + place + " are not told", buys(10, 100, 3 * digit, 100 + place, 1, 900 + place, 0), NOT);
            Edge.is("more than at least of place " + place, buys(10, 100, digit, 100 + place, 1, 900 + place, 1), 3);
            Edge.is("9 of place " + place, buys(9, 100, 9 * digit, place, 0, place, 0, place, 0, place, 0, place, 0, place, 0, place, 0, place, 0, place, 0), 511);
            Edge.is("none of place " + place, buys(9, 100, digit, (place + 1) % 4, 5), NOT);
        }
        Edge.is("2 HOME GROWN ones", buys(9, 102, 0, 10, 0, 1, 9, 13, 0), 7);
        Edge.is("2 HOME GROWN ones, at most 2", buys(9, 22, 0, 10, 0, 1, 9, 13, 0), 5);
        Edge.is("2 HOME GROWN ones, at most 1", buys(9, 12, 0, 10, 0, 1, 9, 13, 0), NOT);
        Edge.is("3 HOME GROWN ones are not told", buys(9, 103, 0, 10, 0, 1, 9, 13, 0), NOT);
        Edge.is("9 HOME GROWN ones", buys(9, 109, 0, 10, 0, 10, 0, 10, 0, 10, 0, 10, 0, 10, 0, 10, 0, 10, 0, 10, 0), 511);
    }

    private static void t6BuysBest() {
        Edge.t(6, "the set with the greatest sum of WORTH; of several the least sum of prices; of several the least as bits. NOT: there is none.");
        Edge.is("the greatest sum of WORTH", buys(10, 100, 0, 600, 10, 500, 6, 500, 5), 6);
        Edge.is("one of the greatest WORTH", buys(10, 100, 0, 600, 12, 500, 6, 500, 5), 1);
        Edge.is("the least sum of prices", buys(9, 100, 0, 600, 11, 500, 6, 400, 5), 1);
        Edge.is("the least sum of prices, of the first", buys(10, 10, 0, 600, 11, 500, 11, 400, 11), 4);
        Edge.is("the least as bits", buys(10, 100, 0, 1000, 11, 500, 6, 500, 5), 1);
        Edge.is("the least as bits", buys(10, 10, 0, 600, 11, 600, 11, 600, 11), 1);
        Edge.is("WORTH 0 for nothing is not bought", buys(10, 100, 0, 0, 0), 0);
        Edge.is("WORTH 0 for nothing, one at least", buys(10, 100, 1000, 0, 0, 0, 0), 1);
        Edge.is("the greatest WORTH of 10", buys(9999999, 100, 0, 0, 99999, 0, 99999, 0, 99999, 0, 99999, 0, 99999, 0, 99999, 0, 99999, 0, 99999, 0, 99999, 0, 99999), 1023);
        Edge.is("there is none", buys(10, 0, 1, 3, 5), NOT);
    }

    private static void parted(int assets, int[] told, int... gets) {
        PlayerMoves x = Worlds.fresh();
        int paid = 0;
        for (int i = 0; i < told.length; i += 2) {
            x.claim(told[i], told[i + 1]);
            paid += gets[i / 2];
        }
        Edge.is("part(" + assets + ")", x.part(assets), paid);
        for (int i = 0; i < gets.length; i++) {
            Edge.is("part(" + assets + "): got(" + i + ")", x.got(i), gets[i]);
        }
        Edge.is("part(" + assets + "): got beyond", x.got(gets.length), BAD);
    }

    private static void t6Claims() {
        Edge.t(6, "FAILED CLUB: claims told by RANK 0 .. 3 (at most 12): assets are parted, RANK 0 first: a rank is paid whole, or each of it by whole parts, the rest"
            + " one by one to those with the greatest rests, of like ones the earlier told; the next ones get nothing.");
        int[] ranks = of(3, 4, 2, 3, 1, 2, 0, 1);
        parted(0, ranks, 0, 0, 0, 0);
        parted(1, ranks, 0, 0, 0, 1);
        parted(2, ranks, 0, 0, 1, 1);
        parted(3, ranks, 0, 0, 2, 1);
        parted(5, ranks, 0, 2, 2, 1);
        parted(6, ranks, 0, 3, 2, 1);
        parted(9, ranks, 3, 3, 2, 1);
        parted(10, ranks, 4, 3, 2, 1);
        parted(11, ranks, 4, 3, 2, 1);
        int[] like = of(1, 5, 1, 5, 1, 5, 2, 5);
        parted(1, like, 1, 0, 0, 0);
        parted(2, like, 1, 1, 0, 0);
        parted(14, like, 5, 5, 4, 0);
        parted(15, like, 5, 5, 5, 0);
        parted(16, like, 5, 5, 5, 1);
        int[] unlike = of(0, 1, 0, 2, 0, 4);
        parted(1, unlike, 0, 0, 1);
        parted(2, unlike, 0, 1, 1);
        parted(3, unlike, 0, 1, 2);
        parted(4, unlike, 1, 1, 2);
        parted(5, unlike, 1, 1, 3);
        parted(6, unlike, 1, 2, 3);
        parted(999998, of(3, 999999, 3, 999999), 499999, 499999);
        parted(999999, of(3, 999999, 3, 999999), 500000, 499999);
        parted(9999999, of(0, 999999, 0, 999999, 0, 999999, 0, 999999, 0, 999999, 0, 999999, 0, 999999, 0, 999999, 0, 999999, 0, 999999, 0, 999999, 0, 999999),
            833334, 833334, 833334, 833333, 833333, 833333, 833333, 833333, 833333, 833333, 833333, 833333);
    }
}
