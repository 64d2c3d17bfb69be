/** The edges of promises 17 to 25, and of section 3 of the Terms. */
final class EdgesMoves {
    private static final int BAD = PlayerMoves.BAD, NOT = PlayerMoves.NOT, FULL = PlayerMoves.FULL, VOID = PlayerMoves.VOID;
    private static final int MIN = Integer.MIN_VALUE, MAX = Integer.MAX_VALUE;
    private static final int[] NO_CLUBS = {-1, 3, 4, 8, 9, 10, 150, MAX, MIN};
    private static final int[] NO_PLAYERS = {-1, 0, 1, 2, 3, 8, 9, 10, 150, MAX, MIN};
    private static final int[] NO_MOVES = {-1, 3, 4, 200, MAX, MIN};

    private EdgesMoves() {
    }

    static void all() {
        p17Term();
        p18Why();
        p18WhyChangesNothing();
        p19SellBad();
        p19SellNotWhyFull();
        p20LendBad();
        p20LendNotWhyFull();
        p21OptionBad();
        p21OptionNot();
        p21OptionWhy();
        p21OptionFull();
        p22OfMove();
        p23Share();
        p24Play();
        p25Undo();
        EdgesPaid.all();
    }

    private static void p17Term() {
        Edge.p(17, "What a SALE told next is by: 0 FEE (0 .. 999999), 1 CONTRACT till (0 .. 2999), 2 WAGE, 3 SPREAD (1 .. 5), 4 KEPT (0 .. 50), 5 BONUS"
            + " (0 .. 999999), 6 MATCHES for it (1 .. 999), 7 of a LOAN till (0 .. 2999), 8 OPTION (0 .. 999999): what it was (0 at first; SPREAD, MATCHES 1;"
            + " they stay). BAD.");
        int[] least = {0, 0, 0, 1, 0, 0, 1, 0, 0};
        int[] most = {999999, 2999, 99999, 5, 50, 999999, 999, 2999, 999999};
        for (int i = 0; i < 9; i++) {
            int what = i;
            int[] bad = {least[i] - 1, most[i] + 1, MAX, MIN};
            for (int v : bad) {
                Edge.no("term(" + what + ", " + v + ")", x -> x.term(what, v), BAD);
            }
            PlayerMoves x = Worlds.fresh();
            Edge.is("term(" + what + ", " + most[i] + "): at first", x.term(what, most[i]), least[i]);
            Edge.is("term(" + what + ", " + least[i] + ")", x.term(what, least[i]), most[i]);
            Edge.is("term(" + what + ", " + least[i] + ") again", x.term(what, least[i]), least[i]);
            Edge.is("term(" + what + ", least + 1)", x.term(what, least[i] + 1), least[i]);
            Edge.is("the other terms", x.term((what + 1) % 9, least[(what + 1) % 9]), least[(what + 1) % 9]);
        }
        int[] none = {-1, 9, MAX, MIN};
        for (int what : none) {
            Edge.no("term(" + what + ", 1)", x -> x.term(what, 1), BAD);
        }
        PlayerMoves x = Worlds.busy();
        x.sell(6, 1);
        x.days(1);
        int[] stay = {100, 1200, 40, 3, 20, 30, 10, 50, 60};
        for (int what = 0; what < 9; what++) {
            Edge.is("they stay: term(" + what + ", 1)", x.term(what, 1), stay[what]);
        }
    }

    private static void p18Why() {
        Edge.p(18, "BAD; NOT: he is FREE.");
        for (int loan = -1; loan <= 2; loan++) {
            int how = loan;
            for (int who : NO_PLAYERS) {
                Edge.no("why(" + who + ", 0, " + how + ")", x -> x.why(who, 0, how), BAD);
            }
            for (int club : NO_CLUBS) {
                Edge.no("why(4, " + club + ", " + how + ")", x -> x.why(4, club, how), BAD);
                Edge.no("why(7, " + club + ", " + how + ") of a FREE one", x -> x.why(7, club, how), BAD);
            }
        }
        int[] loans = {-1, 2, MAX, MIN};
        for (int loan : loans) {
            Edge.no("why(4, 0, " + loan + ")", x -> x.why(4, 0, loan), BAD);
            Edge.no("why(7, 0, " + loan + ") of a FREE one", x -> x.why(7, 0, loan), BAD);
        }
        Edge.no("why(7, 0, 0)", x -> x.why(7, 0, 0), NOT);
        Edge.no("why(7, 2, 1) to a LEAGUE that is not OPEN", x -> x.why(7, 2, 1), NOT);
        Edge.no("why(6, 1, 0) behind the last SPAN's till", Worlds::lastDay, x -> x.why(6, 1, 0), 0);
        Edge.no("why(4, 1, 0) behind the last SPAN's till", Worlds::lastDay, x -> x.why(4, 1, 0), NOT);
    }

    private static void p18WhyChangesNothing() {
        Edge.p(18, "WHY a SALE (loan 0), LOAN (1) of a PLAYER to a CLUB by the terms as they are may not be: 1 .. 6; 0: it may.");
        Edge.no("why(4, 0, 0)", x -> x.why(4, 0, 0), 0);
        Edge.no("why(4, 0, 1)", x -> x.why(4, 0, 1), 0);
        Edge.no("why(4, 1, 0)", x -> x.why(4, 1, 0), 1);
        Edge.no("why(5, 0, 0) of one who is lent to him", x -> x.why(5, 0, 0), 0);
        Edge.no("why(5, 0, 1) of one who is lent to him", x -> x.why(5, 0, 1), 1);
        Edge.no("why(4, 2, 0)", x -> x.why(4, 2, 0), 2);
        Edge.no("why(4, 2, 1)", x -> x.why(4, 2, 1), 2);
        PlayerMoves x = Worlds.busy();
        x.term(1, 0);
        x.term(7, 0);
        Edge.is("the tills are not asked", x.why(4, 0, 0), 0);
        Edge.is("the tills are not asked", x.why(4, 0, 1), 0);
        PlayerMoves y = Worlds.fullMoves();
        Edge.is("FULL is not asked", y.why(4, 0, 0), 0);
        Edge.is("FULL is not asked", y.why(4, 0, 1), 0);
    }

    /** A busy object in which the CONTRACT's till is ahead of TODAY. */
    private static PlayerMoves tillYesterday() {
        PlayerMoves x = Worlds.busy();
        x.term(1, 9);
        return x;
    }

    /** A busy object in which the LOAN's till is ahead of TODAY. */
    private static PlayerMoves loanTillYesterday() {
        PlayerMoves x = Worlds.busy();
        x.term(7, 9);
        return x;
    }

    private static PlayerMoves fullMovesTillYesterday() {
        PlayerMoves x = Worlds.fullMoves();
        x.term(1, 9);
        x.term(7, 9);
        return x;
    }

    private static void p19SellBad() {
        Edge.p(19, "BAD (also: the CONTRACT's till is ahead of TODAY)");
        for (int who : NO_PLAYERS) {
            Edge.no("sell(" + who + ", 0)", x -> x.sell(who, 0), BAD);
        }
        for (int club : NO_CLUBS) {
            Edge.no("sell(4, " + club + ")", x -> x.sell(4, club), BAD);
            Edge.no("sell(7, " + club + ") of a FREE one", x -> x.sell(7, club), BAD);
        }
        Edge.no("sell(4, 0) till yesterday", EdgesMoves::tillYesterday, x -> x.sell(4, 0), BAD);
        Edge.no("sell(7, 0) of a FREE one till yesterday", EdgesMoves::tillYesterday, x -> x.sell(7, 0), BAD);
        Edge.no("sell(4, 1) to his OWNER till yesterday", EdgesMoves::tillYesterday, x -> x.sell(4, 1), BAD);
        Edge.no("sell(4, 0) till yesterday when FULL", EdgesMoves::fullMovesTillYesterday, x -> x.sell(4, 0), BAD);
        PlayerMoves x = loanTillYesterday();
        Edge.is("the LOAN's till is not asked", x.sell(4, 0), 3);
        PlayerMoves y = Worlds.busy();
        y.term(1, 10);
        Edge.is("till TODAY", y.sell(4, 0), 3);
        Edge.is("OWNER TODAY", y.at(4, 10, 1), 0);
        Edge.is("OWNER of tomorrow", y.at(4, 11, 1), NOT);
        PlayerMoves z = Worlds.lastDay();
        z.term(1, 2998);
        Edge.is("till 2998 on 2999", z.sell(6, 1), BAD);
        z.term(1, 2999);
        Edge.is("till 2999 on 2999", z.sell(6, 1), 3);
    }

    private static void p19SellNotWhyFull() {
        Edge.p(19, "NOT; -20 less WHY; FULL (also of SPANS).");
        Edge.no("sell(7, 0) of a FREE one", x -> x.sell(7, 0), NOT);
        Edge.no("sell(7, 2) of a FREE one to a LEAGUE that is not OPEN", x -> x.sell(7, 2), NOT);
        Edge.no("sell(7, 0) of a FREE one when FULL", Worlds::fullMoves, x -> x.sell(7, 0), NOT);
        Edge.no("sell(7, 0) of a FREE one when SPANS are FULL", Worlds::fullSpans, x -> x.sell(7, 0), NOT);
        Edge.no("sell(4, 1) to his OWNER", x -> x.sell(4, 1), -21);
        Edge.no("sell(4, 1) to his OWNER when FULL", Worlds::fullMoves, x -> x.sell(4, 1), -21);
        Edge.no("sell(4, 1) to his OWNER when SPANS are FULL", Worlds::fullSpans, x -> x.sell(4, 1), -21);
        Edge.no("sell(4, 2) to a LEAGUE that is not OPEN", x -> x.sell(4, 2), -22);
        Edge.no("sell(4, 0) when FULL", Worlds::fullMoves, x -> x.sell(4, 0), FULL);
        Edge.no("sell(4, 0) when SPANS are FULL", Worlds::fullSpans, x -> x.sell(4, 0), FULL);
        Edge.no("sell(5, 0) of a lent one when FULL", Worlds::fullMoves, x -> x.sell(5, 0), FULL);
        PlayerMoves x = Worlds.busy();
        x.term(0, 0);
        for (int i = 3; i < 200; i++) {
            Edge.is("SALE " + i, x.sell(6, i % 2), i);
        }
        Edge.is("SALE 200", x.sell(6, 0), FULL);
        Edge.is("UNDONE", x.undo(199), 1);
        Edge.is("SALE 200 when one is UNDONE", x.sell(6, 1), FULL);
        Edge.is("SPANS of the last one", x.ofBody(6, 6), 2 + 197);
    }

    private static void p20LendBad() {
        Edge.p(20, "BAD (also: its till is ahead of TODAY)");
        for (int who : NO_PLAYERS) {
            Edge.no("lend(" + who + ", 0)", x -> x.lend(who, 0), BAD);
        }
        for (int club : NO_CLUBS) {
            Edge.no("lend(4, " + club + ")", x -> x.lend(4, club), BAD);
            Edge.no("lend(7, " + club + ") of a FREE one", x -> x.lend(7, club), BAD);
        }
        Edge.no("lend(4, 0) till yesterday", EdgesMoves::loanTillYesterday, x -> x.lend(4, 0), BAD);
        Edge.no("lend(7, 0) of a FREE one till yesterday", EdgesMoves::loanTillYesterday, x -> x.lend(7, 0), BAD);
        Edge.no("lend(4, 1) to his OWNER till yesterday", EdgesMoves::loanTillYesterday, x -> x.lend(4, 1), BAD);
        Edge.no("lend(4, 0) till yesterday when FULL", EdgesMoves::fullMovesTillYesterday, x -> x.lend(4, 0), BAD);
        PlayerMoves x = tillYesterday();
        Edge.is("the CONTRACT's till is not asked", x.lend(4, 0), 3);
        PlayerMoves y = Worlds.busy();
        y.term(7, 10);
        Edge.is("till TODAY", y.lend(4, 0), 3);
        Edge.p(20, "(His HOLDER is that CLUB up to its DAY, that too.)");
        Edge.is("HOLDER TODAY", y.at(4, 10, 0), 0);
        Edge.is("HOLDER of tomorrow", y.at(4, 11, 0), 1);
        Edge.is("HOLDER of yesterday", y.at(4, 9, 0), 1);
        Edge.is("HOLDER on the last DAY of 5's LOAN", y.at(5, 50, 0), 0);
        Edge.is("HOLDER behind it", y.at(5, 51, 0), 1);
        PlayerMoves z = Worlds.lastDay();
        z.term(7, 2998);
        Edge.is("till 2998 on 2999", z.lend(6, 1), BAD);
        z.term(7, 2999);
        Edge.is("till 2999 on 2999", z.lend(6, 1), 3);
        Edge.is("HOLDER on 2999", z.ofBody(6, 4), 1);
    }

    private static void p20LendNotWhyFull() {
        Edge.p(20, "NOT; -20 less WHY; FULL.");
        Edge.no("lend(7, 0) of a FREE one", x -> x.lend(7, 0), NOT);
        Edge.no("lend(7, 2) of a FREE one to a LEAGUE that is not OPEN", x -> x.lend(7, 2), NOT);
        Edge.no("lend(7, 0) of a FREE one when FULL", Worlds::fullMoves, x -> x.lend(7, 0), NOT);
        Edge.no("lend(4, 1) to his OWNER", x -> x.lend(4, 1), -21);
        Edge.no("lend(5, 0) of a lent one", x -> x.lend(5, 0), -21);
        Edge.no("lend(4, 1) to his OWNER when FULL", Worlds::fullMoves, x -> x.lend(4, 1), -21);
        Edge.no("lend(4, 2) to a LEAGUE that is not OPEN", x -> x.lend(4, 2), -22);
        Edge.no("lend(4, 0) when FULL", Worlds::fullMoves, x -> x.lend(4, 0), FULL);
        Edge.no("lend(4, 0) when SPANS are FULL", Worlds::fullSpans, x -> x.lend(4, 0), FULL);
        PlayerMoves x = Worlds.busy();
        x.term(0, 0);
        for (int i = 3; i < 200; i++) {
            Edge.is("LOAN " + i, x.lend(6, 1), i);
            if (i < 199) {
                Edge.is("undo " + i, x.undo(i), 1);
            }
        }
        Edge.is("LOAN 200 of another", x.lend(4, 0), FULL);
    }

    private static void p21OptionBad() {
        Edge.p(21, "BAD (also the till)");
        for (int move : NO_MOVES) {
            Edge.no("option(" + move + ")", x -> x.option(move), BAD);
        }
        Edge.no("option(1) till yesterday", EdgesMoves::tillYesterday, x -> x.option(1), BAD);
        Edge.no("option(0) of a SALE till yesterday", EdgesMoves::tillYesterday, x -> x.option(0), BAD);
        Edge.no("option(2) of an UNDONE one till yesterday", EdgesMoves::tillYesterday, x -> x.option(2), BAD);
        Edge.no("option(1) till yesterday when FULL", EdgesMoves::fullMovesTillYesterday, x -> x.option(1), BAD);
        Edge.no("option(200) when FULL", Worlds::fullMoves, x -> x.option(200), BAD);
        PlayerMoves x = loanTillYesterday();
        x.term(1, 10);
        Edge.is("option(1) till TODAY", x.option(1), 3);
        Edge.is("OWNER TODAY", x.at(5, 10, 1), 0);
        Edge.is("OWNER of tomorrow", x.at(5, 11, 1), NOT);
    }

    private static PlayerMoves dayOf(int day) {
        PlayerMoves x = Worlds.busy();
        Due.until(x, day);
        return x;
    }

    private static void p21OptionNot() {
        Edge.p(21, "NOT: it is no LOAN with an OPTION, is over for more than a DAY, UNDONE, or its seller isn't his OWNER");
        Edge.no("option(0) of a SALE", x -> x.option(0), NOT);
        Edge.no("option(2) of an UNDONE SALE", x -> x.option(2), NOT);
        Edge.no("two DAYS behind", () -> dayOf(52), x -> x.option(1), NOT);
        Edge.no("on the last DAY of the CONTRACT's till", () -> dayOf(1200), x -> x.option(1), NOT);
        Edge.is("on its last DAY", dayOf(50).option(1), 3);
        Edge.is("on the DAY behind", dayOf(51).option(1), 3);
        Edge.is("on its own DAY", Worlds.busy().option(1), 3);
        PlayerMoves x = Worlds.busy();
        x.term(8, 0);
        Edge.is("lend(4, 0) without an OPTION", x.lend(4, 0), 3);
        Edge.is("option(3) without an OPTION", x.option(3), NOT);
        x.term(8, 1);
        Edge.is("nor by a later term", x.option(3), NOT);
        Edge.is("lend(6, 1) with an OPTION of 1", x.lend(6, 1), 4);
        Edge.is("option(4)", x.option(4), 5);
        Edge.is("its FEE", x.ofMove(5, 3), 1);
        Edge.is("option(4) again: its seller isn't his OWNER", x.option(4), NOT);
        Edge.is("undo(5)", x.undo(5), 1);
        Edge.is("option(4) when that is UNDONE", x.option(4), 6);
        x.undo(6);
        x.undo(4);
        Edge.is("option(4) when it is UNDONE itself", x.option(4), NOT);
        PlayerMoves y = Worlds.busy();
        y.term(1, 2999);
        Edge.is("sell(5, 0) to the borrower", y.sell(5, 0), 3);
        Edge.is("its seller isn't his OWNER", y.option(1), NOT);
        Edge.is("sell(5, 1) back", y.sell(5, 1), 4);
        Edge.is("its seller is his OWNER again", y.option(1), 5);
        PlayerMoves z = Worlds.market();
        z.term(8, 5);
        z.sign(6, 0, 3, 0);
        z.term(7, 9);
        z.lend(6, 1);
        z.days(3);
        Edge.is("on the CONTRACT's last DAY it is not over", z.ofBody(6, 5), 0);
        z.days(1);
        Edge.is("he is FREE: its seller isn't his OWNER", z.option(0), NOT);
        z.sign(6, 0, 9, 0);
        Edge.is("its seller is his OWNER anew", z.option(0), 1);
    }

    /** LOAN 0 of 5 from club 0 to 2 (LEAGUE 1), OPTION 1001; LEAGUE 1 is OPEN from DAY 10 on, PAPERS by 5; RULES 0 and 1 bar him. */
    private static PlayerMoves barred(int day, int minute) {
        PlayerMoves x = new PlayerMoves();
        x.club(5, 0, 1000);
        x.club(5, 0, 1000);
        x.club(5, 1, 1000);
        x.body(6);
        x.player(2, -9000, 50, 3);
        x.player(4, -9000, 60, -1);
        x.window(0, 0, 2999);
        x.window(1, 0, 0);
        x.window(1, 10, 2999);
        x.sign(5, 0, 2999, 20);
        Worlds.terms(x, 0, 2999, 0, 1, 0, 0, 1, 20, 1001);
        x.lend(5, 2);
        x.papers(1, 5);
        Due.rule(x, 10, 1, "1=2");
        Due.rule(x, 11, 1, "1=2");
        Due.until(x, day);
        x.minute(minute);
        return x;
    }

    private static void p21OptionWhy() {
        Edge.p(21, "-20 less WHY (2 to 5 alone; the OPTION as FEE)");
        Edge.no("not OPEN, late, barred, too dear", () -> barred(9, 6), x -> x.option(0), -22);
        Edge.no("late, barred, too dear", () -> barred(10, 6), x -> x.option(0), -23);
        Edge.no("barred, too dear", () -> barred(10, 5), x -> x.option(0), -24);
        PlayerMoves x = barred(10, 5);
        Due.rule(x, 10, 0, "k=4;a=30");
        Edge.is("too dear by the OPTION", x.option(0), -25);
        PlayerMoves y = Worlds.market();
        y.term(8, 1000);
        y.lend(5, 2);
        y.term(0, 1001);
        Due.rule(y, 11, 0, "n<1");
        Edge.is("WHY of a SALE is 5", y.why(5, 2, 0), 5);
        y.term(0, 0);
        Edge.is("WHY of a SALE is 6", y.why(5, 2, 0), 6);
        y.term(0, 1001);
        Edge.is("the OPTION as FEE, and not RULE 1", y.option(0), 1);
        Edge.is("COINS", y.ofBody(2, 2), 0);
        PlayerMoves z = Worlds.market();
        z.term(8, 1001);
        z.lend(5, 2);
        Edge.is("one coin is lacking", z.option(0), -25);
        z.term(7, 3);
        z.term(8, 5);
        z.lend(4, 2);
        z.days(4);
        z.term(7, 9);
        z.lend(4, 1);
        Edge.is("that he is lent to another now is not asked", z.option(1), 3);
        Edge.is("OWNER", z.ofBody(4, 5), 2);
        Edge.is("HOLDER", z.ofBody(4, 4), 2);
    }

    private static void p21OptionFull() {
        Edge.p(21, "as of any SALE): the SALE's number. BAD (also the till); NOT: it is no LOAN with an OPTION, is over for more than a DAY, UNDONE, or its seller"
            + " isn't his OWNER; -20 less WHY (2 to 5 alone; the OPTION as FEE); FULL.");
        Edge.no("option(1) when FULL", Worlds::fullMoves, x -> x.option(1), FULL);
        Edge.no("option(1) when SPANS are FULL", Worlds::fullSpans, x -> x.option(1), FULL);
        Edge.no("option(0) of a SALE when FULL", Worlds::fullMoves, x -> x.option(0), NOT);
        Edge.no("option(199) of a SALE when FULL", Worlds::fullMoves, x -> x.option(199), NOT);
        PlayerMoves x = Worlds.fullMoves();
        x.papers(0, 29);
        Edge.is("WHY ahead of FULL", x.option(1), -23);
        PlayerMoves y = Worlds.busy();
        y.term(0, 0);
        for (int i = 3; i < 199; i++) {
            y.sell(6, i % 2);
        }
        Edge.is("option(1), the 200th MOVE", y.option(1), 199);
        Edge.is("KEPT 0, no BONUS", y.play(5, 60), 60);
        Edge.is("BONUS paid", y.ofMove(199, 10), 0);
    }

    private static void p22OfMove() {
        Edge.p(22, "VOID: BAD.");
        for (int move : NO_MOVES) {
            Edge.no("ofMove(" + move + ", 0)", x -> x.ofMove(move, 0), VOID);
            Edge.no("ofMove(" + move + ", 10)", x -> x.ofMove(move, 10), VOID);
        }
        int[] whats = {-1, 11, MAX, MIN};
        for (int what : whats) {
            Edge.no("ofMove(0, " + what + ")", x -> x.ofMove(0, what), VOID);
            Edge.no("ofMove(2, " + what + ")", x -> x.ofMove(2, what), VOID);
        }
        Edge.no("ofMove(199, 0)", Worlds::fullMoves, x -> x.ofMove(199, 0), 6);
        Edge.no("ofMove(200, 0)", Worlds::fullMoves, x -> x.ofMove(200, 0), VOID);
        Edge.p(22, "0 PLAYER, 1 seller, 2 buyer, 3 FEE, 4 DAY, 5 whether it is a LOAN, 6 UNDONE (1, 0), 7 KEPT paid, 8 SHARES paid (as it was paid, UNDONE or"
            + " not), 9 the AGENT's, 10 BONUS paid (0).");
        int[][] due = {{4, 0, 1, 100, 0, 0, 0, 0, 5, 3, 0}, {5, 1, 0, 100, 5, 1, 0, 0, 0, 0, 0}, {6, 0, 1, 100, 5, 0, 1, 0, 0, 3, 0}};
        for (int i = 0; i < 3; i++) {
            int move = i;
            for (int k = 0; k <= 10; k++) {
                int what = k;
                Edge.no("ofMove(" + move + ", " + what + ")", x -> x.ofMove(move, what), due[move][what]);
            }
        }
        PlayerMoves x = Worlds.busy();
        x.play(4, 7);
        Edge.is("BONUS paid", x.ofMove(0, 10), 30);
        Edge.is("undo(0)", x.undo(0), 1);
        int[] then = {4, 0, 1, 100, 0, 0, 1, 0, 5, 3, 30};
        for (int what = 0; what <= 10; what++) {
            Edge.is("UNDONE: ofMove(0, " + what + ")", x.ofMove(0, what), then[what]);
        }
    }

    private static void p23Share() {
        Edge.p(23, "SHARE that a CLUB got by a MOVE (as it was paid, UNDONE or not). BAD.");
        for (int move : NO_MOVES) {
            Edge.no("share(" + move + ", 0)", x -> x.share(move, 0), BAD);
        }
        for (int club : NO_CLUBS) {
            Edge.no("share(0, " + club + ")", x -> x.share(0, club), BAD);
            Edge.no("share(1, " + club + ") of a LOAN", x -> x.share(1, club), BAD);
        }
        int[][] due = {{0, 0, 0}, {0, 1, 2}, {0, 2, 3}, {1, 0, 0}, {1, 1, 0}, {1, 2, 0}, {2, 0, 0}, {2, 1, 0}, {2, 2, 0}};
        for (int[] w : due) {
            Edge.no("share(" + w[0] + ", " + w[1] + ")", x -> x.share(w[0], w[1]), w[2]);
        }
        PlayerMoves x = Worlds.busy();
        x.club(7, 3, 0);
        Edge.is("of a CLUB that came later", x.share(0, 10), 0);
        x.undo(0);
        Edge.is("UNDONE: share(0, 2)", x.share(0, 2), 3);
        Edge.is("UNDONE: share(0, 1)", x.share(0, 1), 2);
    }

    private static void p24Play() {
        Edge.p(24, "MATCHES are played TODAY: all so far for that HOLDER. BAD; NOT: he has none.");
        for (int who : NO_PLAYERS) {
            Edge.no("play(" + who + ", 1)", x -> x.play(who, 1), BAD);
        }
        int[] bad = {0, -1, 61, MAX, MIN};
        for (int n : bad) {
            Edge.no("play(4, " + n + ")", x -> x.play(4, n), BAD);
            Edge.no("play(7, " + n + ") without a HOLDER", x -> x.play(7, n), BAD);
        }
        Edge.no("play(7, 1) without a HOLDER", x -> x.play(7, 1), NOT);
        Edge.no("play(7, 60) without a HOLDER", x -> x.play(7, 60), NOT);
        Edge.no("play(4, 1) behind his last SPAN", Worlds::lastDay, x -> x.play(4, 1), NOT);
        PlayerMoves x = Worlds.busy();
        Edge.is("play(4, 1)", x.play(4, 1), 4);
        Edge.is("play(4, 60)", x.play(4, 60), 64);
        Edge.is("play(5, 60) of a lent one", x.play(5, 60), 60);
        Edge.is("sell(4, 0)", x.sell(4, 0), 3);
        Edge.is("for another HOLDER", x.play(4, 1), 1);
        Edge.is("undo(3)", x.undo(3), 1);
        Edge.is("for the first one again", x.play(4, 1), 65);
        PlayerMoves y = Worlds.fresh();
        y.club(5, 0, 0);
        y.player(2, 0, 0, -1);
        y.past(1, 0, -5, 0);
        Edge.is("a PAST SPAN that lies on DAY 0", y.play(1, 1), 1);
        y.days(1);
        Edge.is("behind it", y.play(1, 1), NOT);
    }

    private static void p25Undo() {
        Edge.p(25, "UNDONE: 1; -100 less the first later MOVE of him that stands. BAD; NOT: it is UNDONE (both ahead of -100).");
        for (int move : NO_MOVES) {
            Edge.no("undo(" + move + ")", x -> x.undo(move), BAD);
        }
        Edge.no("undo(200) when FULL", Worlds::fullMoves, x -> x.undo(200), BAD);
        Edge.no("undo(2) of an UNDONE one", x -> x.undo(2), NOT);
        Edge.no("undo(2) of an UNDONE one with later MOVES", Worlds::fullMoves, x -> x.undo(2), NOT);
        Edge.no("undo(3) of 3 .. 199", Worlds::fullMoves, x -> x.undo(3), -104);
        Edge.no("undo(198) of 3 .. 199", Worlds::fullMoves, x -> x.undo(198), -299);
        PlayerMoves x = Worlds.busy();
        Edge.is("another's later MOVES are not in the way", x.undo(0), 1);
        Edge.is("undo(0) again", x.undo(0), NOT);
        Edge.is("undo(1) of a LOAN", x.undo(1), 1);
        Edge.is("count(4)", x.count(4), 0);
        PlayerMoves y = Worlds.busy();
        y.sell(6, 1);
        y.sell(4, 0);
        y.sell(6, 0);
        y.sell(6, 1);
        Edge.is("undo(3)", y.undo(3), -105);
        Edge.is("undo(5)", y.undo(5), -106);
        Edge.is("undo(0)", y.undo(0), -104);
        Edge.is("undo(6)", y.undo(6), 1);
        Edge.is("undo(3) hangs on", y.undo(3), -105);
        Edge.is("undo(5)", y.undo(5), 1);
        Edge.is("undo(3)", y.undo(3), 1);
        PlayerMoves z = Worlds.busy();
        z.option(1);
        Edge.no("undo(1) of a LOAN that became a SALE", () -> optioned(), w -> w.undo(1), -103);
        Edge.is("undo(3)", z.undo(3), 1);
        Edge.is("undo(1)", z.undo(1), 1);
        PlayerMoves last = Worlds.fullMoves();
        Edge.is("undo(199)", last.undo(199), 1);
        Edge.is("undo(198)", last.undo(198), 1);
    }

    private static PlayerMoves optioned() {
        PlayerMoves x = Worlds.busy();
        x.option(1);
        return x;
    }
}
