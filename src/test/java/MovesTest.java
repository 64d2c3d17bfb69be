/** Promises 17 to 25: sales, loans, what is paid, undoing. */
public final class MovesTest {
    private static final int VOID = PlayerMoves.VOID;

    public static void main(String[] args) {
        terms();
        why();
        whyByRules();
        refusedMoves();
        paidOfASale();
        keptOfTheNextSale();
        shares();
        sharesOfTheEdges();
        spread();
        loans();
        options();
        optionsRefused();
        bonuses();
        plays();
        undoing();
        fullMoves();
        Due.end();
    }

    /** Clubs 0, 1, 2 of LEAGUES 0, 0, 1 with 1000 coins, open for ever; an agent 3; players 4 (his) and 5, both owned by club 0. */
    private static PlayerMoves made() {
        PlayerMoves x = new PlayerMoves();
        x.club(5, 0, 1000);
        x.club(5, 0, 1000);
        x.club(5, 1, 1000);
        x.body(6);
        x.player(2, -9000, 50, 3);
        x.player(4, -9000, 60, -1);
        x.window(0, 0, 2999);
        x.window(1, 0, 2999);
        x.sign(4, 0, 2999, 10);
        x.sign(5, 0, 2999, 20);
        x.term(1, 2999);
        x.term(7, 2999);
        return x;
    }

    private static void coins(String when, PlayerMoves x, int a, int b, int c) {
        Due.is(when + ": COINS of 0", x.ofBody(0, 2), a);
        Due.is(when + ": COINS of 1", x.ofBody(1, 2), b);
        Due.is(when + ": COINS of 2", x.ofBody(2, 2), c);
    }

    private static void terms() {
        PlayerMoves x = new PlayerMoves();
        int[] least = {0, 0, 0, 1, 0, 0, 1, 0, 0};
        int[] most = {999999, 2999, 99999, 5, 50, 999999, 999, 2999, 999999};
        for (int what = 0; what < 9; what++) {
            Due.is("term(" + what + ", most)", x.term(what, most[what]), least[what]);
            Due.is("term(" + what + ", too much)", x.term(what, most[what] + 1), -1);
            Due.is("term(" + what + ", too little)", x.term(what, least[what] - 1), -1);
            Due.is("term(" + what + ", least)", x.term(what, least[what]), most[what]);
            Due.is("term(" + what + ", least) again", x.term(what, least[what]), least[what]);
        }
        Due.is("term(-1, 0)", x.term(-1, 0), -1);
        Due.is("term(9, 0)", x.term(9, 0), -1);
    }

    private static void why() {
        PlayerMoves x = made();
        x.player(2, 0, 0, -1);
        Due.is("why of no player", x.why(3, 1, 0), -1);
        Due.is("why of no club", x.why(4, 3, 0), -1);
        Due.is("why of loan 2", x.why(4, 1, 2), -1);
        Due.is("why of loan -1", x.why(4, 1, -1), -1);
        Due.is("why of a FREE one", x.why(6, 1, 0), -2);
        Due.is("why to his OWNER", x.why(4, 0, 0), 1);
        Due.is("why to his OWNER on LOAN", x.why(4, 0, 1), 1);
        Due.is("why(4, 1, 0)", x.why(4, 1, 0), 0);
        Due.is("why(4, 2, 1)", x.why(4, 2, 1), 0);
        x.term(0, 1001);
        Due.is("COINS less than FEE", x.why(4, 1, 0), 5);
        Due.is("COINS less than FEE on LOAN", x.why(4, 1, 1), 5);
        x.term(0, 1000);
        Due.is("COINS as FEE", x.why(4, 1, 0), 0);
        x.papers(1, 5);
        x.minute(5);
        Due.is("PAPERS in time", x.why(4, 2, 0), 0);
        x.minute(6);
        x.term(0, 1001);
        Due.is("PAPERS late", x.why(4, 2, 0), 3);
        Due.is("PAPERS of the buyer's LEAGUE", x.why(4, 1, 0), 5);
        x.club(5, 2, 0);
        x.papers(2, 5);
        Due.is("LEAGUE not OPEN", x.why(4, 7, 0), 2);
        x.term(0, 0);
        x.term(7, 10);
        x.lend(4, 1);
        Due.is("SALE of a lent one to another", x.why(4, 2, 0), 1);
        Due.is("SALE of a lent one to the borrower", x.why(4, 1, 0), 0);
        Due.is("SALE of a lent one to his OWNER", x.why(4, 0, 0), 1);
        Due.is("LOAN of a lent one to the borrower", x.why(4, 1, 1), 1);
        x.days(10);
        Due.is("on the LOAN's last DAY", x.why(4, 2, 0), 1);
        x.days(1);
        Due.is("behind the LOAN", x.why(4, 2, 0), 0);
    }

    private static void whyByRules() {
        PlayerMoves x = made();
        Due.is("MAY", Due.rule(x, 10, 0, "k=4"), 0);
        x.term(0, 1001);
        Due.is("why by RULE 0", x.why(4, 2, 0), 4);
        Due.is("why of a YOUTH", x.why(5, 2, 0), 5);
        Due.is("why by another LEAGUE", x.why(4, 1, 0), 5);
        x.term(0, 1);
        Due.is("SQUAD", Due.rule(x, 11, 0, "n<2&y<2&h=0&w=0&a=0&k=0"), 1);
        Due.is("why by RULE 1", x.why(5, 2, 0), 0);
        Due.is("sell(5, 2)", x.sell(5, 2), 0);
        Due.is("he is held now", x.squad(2, 0), 1);
        Due.is("RULE 1 holds", x.holds(1, 2, -1), -2);
        Due.is("MAY", Due.rule(x, 10, 0, "n<2"), 2);
        Due.is("SQUAD", Due.rule(x, 11, 0, "n<2"), 3);
        Due.is("by RULE 0 he does not count", x.why(4, 2, 0), 6);
        Due.is("by RULE 0 he does not count", x.sell(4, 2), -26);
        Due.is("by RULE 1 of a LOAN, too", x.lend(4, 2), -26);
        x.term(7, 5);
        x.player(2, 0, 0, -1);
        x.past(6, 2, 0, 0);
        Due.is("by RULE 0 the held count", x.why(4, 2, 0), 4);
    }

    private static void refusedMoves() {
        PlayerMoves x = made();
        x.player(2, 0, 0, -1);
        x.days(10);
        Due.is("sell of no player", x.sell(0, 1), -1);
        Due.is("sell to no club", x.sell(4, 5), -1);
        Due.is("sell of a FREE one", x.sell(6, 1), -2);
        Due.is("lend of no player", x.lend(0, 1), -1);
        Due.is("lend to no club", x.lend(4, 5), -1);
        Due.is("lend of a FREE one", x.lend(6, 1), -2);
        Due.is("sell to his OWNER", x.sell(4, 0), -21);
        Due.is("lend to his OWNER", x.lend(4, 0), -21);
        x.term(1, 9);
        x.term(7, 9);
        Due.is("sell till yesterday", x.sell(4, 1), -1);
        Due.is("sell of a FREE one till yesterday", x.sell(6, 1), -1);
        Due.is("lend till yesterday", x.lend(4, 1), -1);
        Due.is("why does not ask the till", x.why(4, 1, 0), 0);
        x.term(1, 10);
        Due.is("sell till TODAY", x.sell(4, 1), 0);
        Due.is("lend till yesterday, again", x.lend(5, 1), -1);
        x.term(7, 10);
        x.term(1, 9);
        Due.is("lend till TODAY", x.lend(5, 1), 1);
        Due.is("count(4)", x.count(4), 2);
        Due.is("sell of a lent one", x.sell(5, 2), -1);
        x.term(1, 10);
        Due.is("sell of a lent one", x.sell(5, 2), -21);
    }

    private static void paidOfASale() {
        PlayerMoves x = made();
        x.days(3);
        x.term(0, 101);
        x.term(2, 33);
        Due.is("sell(4, 1)", x.sell(4, 1), 0);
        coins("sold", x, 1101, 895, 1000);
        int[] told = {4, 0, 1, 101, 3, 0, 0, 0, 0, 4, 0};
        for (int what = 0; what < told.length; what++) {
            Due.is("ofMove(0, " + what + ")", x.ofMove(0, what), told[what]);
        }
        Due.is("ofMove(0, 11)", x.ofMove(0, 11), VOID);
        Due.is("ofMove(0, -1)", x.ofMove(0, -1), VOID);
        Due.is("ofMove(1, 0)", x.ofMove(1, 0), VOID);
        Due.is("ofMove(-1, 0)", x.ofMove(-1, 0), VOID);
        Due.is("OWNER", x.ofBody(4, 5), 1);
        Due.is("HOLDER", x.ofBody(4, 4), 1);
        Due.is("CONTRACT till", x.ofBody(4, 7), 2999);
        Due.is("WAGE", x.ofBody(4, 8), 33);
        Due.is("OWNER ahead", x.at(4, 2, 1), 0);
        x.term(0, 895);
        Due.is("sell for all COINS", x.sell(5, 1), 1);
        coins("without an AGENT", x, 1996, 0, 1000);
        PlayerMoves y = made();
        y.term(0, 1000);
        y.sell(4, 1);
        coins("the AGENT takes COINS below 0", y, 2000, -30, 1000);
        PlayerMoves z = made();
        z.sell(4, 1);
        coins("for nothing", z, 1000, 1000, 1000);
    }

    private static void keptOfTheNextSale() {
        PlayerMoves x = made();
        x.term(0, 100);
        x.term(4, 33);
        x.sell(5, 1);
        Due.is("KEPT, if by sign()", x.ofMove(0, 7), 0);
        coins("first", x, 1100, 900, 1000);
        x.term(0, 110);
        x.term(4, 50);
        x.sell(5, 2);
        Due.is("KEPT of 10, up", x.ofMove(1, 7), 4);
        coins("second", x, 1104, 1006, 890);
        x.term(0, 110);
        x.sell(5, 0);
        Due.is("KEPT of nothing above", x.ofMove(2, 7), 0);
        coins("third", x, 994, 1006, 1000);
        x.term(0, 109);
        x.sell(5, 1);
        Due.is("KEPT of less", x.ofMove(3, 7), 0);
        x.term(0, 110);
        x.sell(5, 2);
        Due.is("KEPT of 1, up", x.ofMove(4, 7), 1);
        x.undo(4);
        Due.is("the SALE that stands counts", x.sell(5, 0), 5);
        Due.is("KEPT of 1 again", x.ofMove(5, 7), 1);
        PlayerMoves y = made();
        y.term(0, 100);
        y.term(1, 0);
        y.term(4, 50);
        y.sell(5, 1);
        y.days(1);
        y.sign(5, 1, 2999, 0);
        y.term(0, 200);
        y.term(1, 2999);
        y.sell(5, 2);
        Due.is("KEPT behind a sign()", y.ofMove(1, 7), 0);
    }

    private static void shares() {
        PlayerMoves x = made();
        x.player(2, -6000, 1, -1);
        x.past(6, 0, -2400, -2301);
        x.past(6, 1, -2300, -2201);
        x.past(6, 2, -2200, -2101);
        x.sign(6, 0, 2999, 1);
        x.term(0, 101);
        Due.is("sell(6, 1)", x.sell(6, 1), 0);
        Due.is("SHARES of 101", x.ofMove(0, 8), 6);
        Due.is("the seller gets none", x.share(0, 0), 0);
        Due.is("the buyer gets his", x.share(0, 1), 3);
        Due.is("share(0, 2)", x.share(0, 2), 3);
        coins("sold", x, 1095, 902, 1003);
        Due.is("share(0, 3)", x.share(0, 3), -1);
        Due.is("share(0, 99)", x.share(0, 99), -1);
        Due.is("share(1, 0)", x.share(1, 0), -1);
        Due.is("share(-1, 0)", x.share(-1, 0), -1);
        x.club(7, 0, 0);
        Due.is("share of a later club", x.share(0, 7), 0);
        x.term(0, 100);
        x.sell(6, 2);
        Due.is("SHARES of 100", x.ofMove(1, 8), 5);
        Due.is("share(1, 0)", x.share(1, 0), 3);
        Due.is("of like rests the lesser number", x.share(1, 2), 2);
        x.term(0, 20);
        x.sell(6, 1);
        Due.is("one coin to the greatest rest", x.share(2, 0), 1);
        Due.is("none to the lesser rest", x.share(2, 1), 0);
        Due.is("SHARES when nobody taught", x.sell(5, 1), 3);
        Due.is("SHARES when nobody taught", x.ofMove(3, 8), 0);
        x.undo(2);
        Due.is("share of an UNDONE one", x.share(2, 0), 1);
        Due.is("SHARES of an UNDONE one", x.ofMove(2, 8), 1);
    }

    /** SHARES to the first and to the last of all BODIES. */
    private static void sharesOfTheEdges() {
        PlayerMoves x = made();
        x.player(2, -6000, 1, -1);
        x.club(5, 0, 1000);
        x.past(6, 0, -2400, -2301);
        x.sign(6, 1, 2999, 1);
        x.term(0, 40);
        Due.is("sell(6, 2)", x.sell(6, 2), 0);
        Due.is("share(0, 0)", x.share(0, 0), 2);
        coins("sold", x, 1002, 1038, 960);
        x.undo(0);
        coins("undone", x, 1000, 1000, 1000);
        x.past(6, 7, -2400, -2301);
        x.sell(6, 2);
        Due.is("share(1, 7)", x.share(1, 7), 2);
        Due.is("COINS of 7", x.ofBody(7, 2), 1002);
        x.undo(1);
        Due.is("COINS of 7", x.ofBody(7, 2), 1000);
        coins("undone", x, 1000, 1000, 1000);
    }

    private static void spread() {
        PlayerMoves x = made();
        x.term(0, 11);
        x.term(3, 4);
        x.term(2, 7);
        x.days(300);
        x.sell(5, 1);
        Due.is("the first YEAR", x.squad(1, 4), 7 + 5);
        Due.is("THREE YEARS", x.squad(1, 5), 7 + 7 + 5);
        x.days(300);
        Due.is("the second YEAR", x.squad(1, 4), 7 + 2);
        Due.is("THREE YEARS", x.squad(1, 5), 3 * 7 + 7);
        x.term(0, 0);
        x.sell(5, 0);
        Due.is("sold on, it is SPREAD on", x.squad(1, 4), 2);
        x.days(300);
        x.days(300);
        Due.is("the fourth YEAR", x.squad(1, 4), 2);
        x.days(300);
        Due.is("the fifth YEAR", x.squad(1, 4), 0);
        Due.is("THREE YEARS", x.squad(1, 5), 4);
    }

    private static void loans() {
        PlayerMoves x = made();
        x.past(4, 2, -5400, -5400);
        x.term(0, 100);
        x.term(7, 20);
        x.term(8, 55);
        x.days(2);
        Due.is("lend(4, 1)", x.lend(4, 1), 0);
        coins("lent", x, 1100, 900, 1000);
        int[] told = {4, 0, 1, 100, 2, 1, 0, 0, 0, 0, 0};
        for (int what = 0; what < told.length; what++) {
            Due.is("ofMove(0, " + what + ")", x.ofMove(0, what), told[what]);
        }
        Due.is("share of a LOAN", x.share(0, 2), 0);
        Due.is("OWNER", x.ofBody(4, 5), 0);
        Due.is("WAGES stay with the OWNER", x.squad(0, 3), 30);
        Due.is("no WAGES of the borrower", x.squad(1, 3), 0);
        Due.is("no FEE of a LOAN in the CAP", x.squad(1, 4), 0);
        Due.is("HOLDER on its last DAY", x.at(4, 20, 0), 1);
        Due.is("HOLDER behind it", x.at(4, 21, 0), 0);
        x.undo(0);
        coins("undone", x, 1000, 1000, 1000);
    }

    private static void options() {
        PlayerMoves x = made();
        x.term(0, 50);
        x.term(4, 40);
        x.term(5, 30);
        x.term(6, 1);
        x.sell(4, 1);
        coins("sold", x, 1050, 948, 1000);
        x.term(7, 20);
        x.term(8, 200);
        x.term(0, 0);
        x.lend(4, 2);
        x.term(2, 44);
        x.term(3, 2);
        x.days(21);
        Due.is("option on the DAY behind", x.option(1), 2);
        coins("KEPT and AGENT are PAID", x, 1050 + 60, 948 + 140, 1000 - 206);
        int[] told = {4, 1, 2, 200, 21, 0, 0, 60, 0, 6, 0};
        for (int what = 0; what < told.length; what++) {
            Due.is("ofMove(2, " + what + ")", x.ofMove(2, what), told[what]);
        }
        Due.is("OWNER", x.ofBody(4, 5), 2);
        Due.is("WAGE by the terms", x.ofBody(4, 8), 44);
        Due.is("SPREAD by the terms", x.squad(2, 4), 44 + 100);
        x.play(4, 60);
        Due.is("no BONUS", x.ofMove(2, 10), 0);
        x.term(0, 300);
        x.sell(4, 0);
        Due.is("KEPT 0", x.ofMove(3, 7), 0);
    }

    private static void optionsRefused() {
        PlayerMoves x = made();
        x.days(5);
        x.term(7, 20);
        Due.is("option(0) not told", x.option(0), -1);
        x.lend(5, 1);
        Due.is("a LOAN without an OPTION", x.option(0), -2);
        x.undo(0);
        x.term(8, 100);
        x.lend(5, 1);
        Due.is("option(-1)", x.option(-1), -1);
        x.term(1, 4);
        Due.is("option till yesterday", x.option(1), -1);
        Due.is("of what is NOT, too", x.option(0), -1);
        x.term(1, 5);
        x.papers(0, 3);
        x.minute(4);
        Due.is("PAPERS late", x.option(1), -23);
        x.papers(0, 1439);
        Due.rule(x, 0, 0, "k=2");
        Due.is("by RULE 0", x.option(1), -24);
        Due.rule(x, 0, 0, "k=4");
        Due.rule(x, 1, 0, "n<0");
        x.term(0, 901);
        x.term(8, 1);
        Due.is("why 6 of a SALE", x.why(5, 1, 0), 6);
        x.term(0, 1000);
        x.sell(4, 2);
        x.term(0, 950);
        Due.is("neither FEE nor RULE 1 count", x.option(1), 3);
        Due.is("option of a SALE", x.option(2), -2);
        Due.is("undo(3)", x.undo(3), 1);
        Due.is("undo(1)", x.undo(1), 1);
        Due.is("option of an UNDONE one", x.option(1), -2);

        PlayerMoves y = made();
        y.term(7, 20);
        y.term(8, 1001);
        y.lend(5, 1);
        Due.is("the OPTION as FEE", y.option(0), -25);
        y.undo(0);
        y.term(8, 1000);
        y.lend(5, 1);
        y.days(22);
        Due.is("over for more than a DAY", y.option(1), -2);
        y.term(7, 40);
        y.lend(5, 1);
        y.term(0, 10);
        y.sell(5, 1);
        Due.is("its seller is not his OWNER", y.option(2), -2);

        PlayerMoves z = new PlayerMoves();
        z.club(5, 0, 5);
        z.club(5, 1, 5);
        z.player(2, 0, 0, -1);
        z.sign(2, 0, 5, 5);
        z.window(1, 0, 3);
        z.term(1, 100);
        z.term(7, 100);
        z.term(8, 5);
        z.lend(2, 1);
        z.days(4);
        Due.is("LEAGUE not OPEN", z.option(0), -22);
        z.days(2);
        Due.is("FREE", z.option(0), -2);
    }

    private static void bonuses() {
        PlayerMoves x = made();
        x.term(5, 70);
        x.term(6, 10);
        x.sell(5, 1);
        x.play(5, 9);
        Due.is("not enough", x.ofMove(0, 10), 0);
        coins("not enough", x, 1000, 1000, 1000);
        x.term(7, 3);
        x.lend(5, 2);
        x.play(5, 60);
        Due.is("for another one", x.ofMove(0, 10), 0);
        x.days(4);
        x.play(5, 1);
        Due.is("enough", x.ofMove(0, 10), 70);
        coins("enough", x, 1070, 930, 1000);
        x.play(5, 60);
        coins("once", x, 1070, 930, 1000);
        x.undo(1);
        x.undo(0);
        Due.is("the BONUS keeps", x.ofMove(0, 10), 70);
        coins("the BONUS keeps", x, 1070, 930, 1000);
        x.term(5, 2000);
        x.term(6, 1);
        x.sell(5, 1);
        x.undo(2);
        x.sell(5, 1);
        x.play(5, 1);
        Due.is("of an UNDONE one", x.ofMove(2, 10), 0);
        Due.is("since that SALE", x.ofMove(3, 10), 2000);
        coins("below 0", x, 3070, -1070, 1000);
        PlayerMoves y = made();
        y.term(5, 5);
        y.term(6, 2);
        y.sell(5, 1);
        y.play(5, 1);
        y.sell(5, 2);
        y.sell(5, 1);
        y.play(5, 1);
        Due.is("the earlier SALE counts on", y.ofMove(0, 10), 5);
        Due.is("the later one counts from itself on", y.ofMove(2, 10), 0);
        y.play(5, 1);
        Due.is("the later one is enough", y.ofMove(2, 10), 5);
        PlayerMoves z = made();
        z.term(5, 1);
        z.sell(5, 1);
        z.play(5, 1);
        Due.is("a BONUS of 1", z.ofMove(0, 10), 1);
    }

    private static void plays() {
        PlayerMoves x = made();
        x.player(2, 0, 0, -1);
        Due.is("play(0, 1)", x.play(0, 1), -1);
        Due.is("play(4, 0)", x.play(4, 0), -1);
        Due.is("play(4, 61)", x.play(4, 61), -1);
        Due.is("play without a HOLDER", x.play(6, 1), -2);
        Due.is("bad play without a HOLDER", x.play(6, 0), -1);
        Due.is("play(4, 60)", x.play(4, 60), 60);
        Due.is("play(4, 1)", x.play(4, 1), 61);
        Due.is("play(5, 1)", x.play(5, 1), 1);
        x.sell(4, 1);
        Due.is("play for another", x.play(4, 2), 2);
        x.sell(4, 0);
        Due.is("play for the first again", x.play(4, 2), 63);
    }

    private static void undoing() {
        PlayerMoves x = made();
        x.player(2, -6000, 1, 3);
        x.past(6, 2, -100, -1);
        x.sign(6, 0, 2999, 1);
        x.term(0, 100);
        x.term(4, 50);
        x.sell(6, 1);
        x.term(0, 200);
        x.sell(4, 2);
        x.sell(6, 2);
        Due.is("undo(-1)", x.undo(-1), -1);
        Due.is("undo(3)", x.undo(3), -1);
        Due.is("KEPT", x.ofMove(2, 7), 50);
        Due.is("SHARES", x.ofMove(2, 8), 10);
        coins("told", x, 1000 + 95 + 50 + 200, 1000 - 103 + 140, 1000 + 5 - 206 - 206 + 10);
        Due.is("undo(0) hangs", x.undo(0), -102);
        Due.is("undo(2)", x.undo(2), 1);
        coins("back", x, 1000 + 95 + 200, 1000 - 103, 1000 + 5 - 206 - 6);
        Due.is("undo(2) again", x.undo(2), -2);
        Due.is("count(4)", x.count(4), 2);
        Due.is("ofMove(2, 6)", x.ofMove(2, 6), 1);
        Due.is("ofMove(2, 7)", x.ofMove(2, 7), 50);
        Due.is("ofMove(2, 9)", x.ofMove(2, 9), 6);
        Due.is("undo(0)", x.undo(0), 1);
        coins("all back", x, 1000 + 200, 1000 - 3, 1000 - 206 - 6);
        Due.is("OWNER", x.ofBody(6, 5), 0);
        Due.is("CAP without UNDONE ones", x.squad(1, 4), 0);
        x.term(0, 0);
        x.sell(6, 1);
        x.sell(6, 0);
        x.sell(6, 1);
        Due.is("the first later one", x.undo(3), -104);
        Due.is("UNDONE ahead of HANGS", x.undo(0), -2);
        x.undo(5);
        Due.is("the first later one", x.undo(3), -104);
        Due.is("another's is not in the way", x.undo(1), 1);
    }

    private static void fullMoves() {
        PlayerMoves x = made();
        for (int i = 0; i < 200; i++) {
            Due.is("sell " + i, x.sell(5, 1 - i % 2), i);
        }
        Due.is("a 201st SALE", x.sell(5, 1), -3);
        Due.is("a 201st LOAN", x.lend(5, 1), -3);
        Due.is("WHY ahead of FULL", x.sell(5, 0), -21);
        Due.is("NOT ahead of FULL", x.option(199), -2);
        Due.is("count(4)", x.count(4), 200);
        x.undo(199);
        Due.is("UNDONE ones keep their numbers", x.sell(5, 0), -3);
        Due.is("ofMove(200, 0)", x.ofMove(200, 0), VOID);
        Due.is("undo(200)", x.undo(200), -1);
        Due.is("share(200, 0)", x.share(200, 0), -1);
    }
}
