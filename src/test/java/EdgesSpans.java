/** The edges of promises 12 to 16, and of section 2 of the Terms. */
final class EdgesSpans {
    private static final int BAD = PlayerMoves.BAD, NOT = PlayerMoves.NOT, FULL = PlayerMoves.FULL;
    private static final int MIN = Integer.MIN_VALUE, MAX = Integer.MAX_VALUE;
    private static final int[] NO_CLUBS = {-1, 3, 4, 8, 9, 10, 150, MAX, MIN};
    private static final int[] NO_PLAYERS = {-1, 0, 1, 2, 3, 8, 9, 10, 150, MAX, MIN};

    private EdgesSpans() {
    }

    static void all() {
        p12Past();
        p13SpansBad();
        p13OtherKind();
        p13HowManyCame();
        p13PlaceBelowZero();
        p13Full();
        p13WrongThrees();
        p13RowMissingOrShort();
        p14Sign();
        p15At();
        p16Taught();
        t2AtMost600();
        t2SortsOfSpans();
        t2Undone();
        t2Owner();
        t2Holder();
        t2Contract();
        t2Taught();
        t2TaughtByStretches();
    }

    private static void p12Past() {
        Edge.p(12, "A PAST SPAN of a PLAYER at a CLUB, from a DAY to a DAY (-9999 .. 0): how many SPANS he has. BAD, FULL.");
        for (int who : NO_PLAYERS) {
            Edge.no("past(" + who + ", 0, -5, -4)", x -> x.past(who, 0, -5, -4), BAD);
        }
        for (int club : NO_CLUBS) {
            Edge.no("past(4, " + club + ", -5, -4)", x -> x.past(4, club, -5, -4), BAD);
        }
        int[][] bad = {{-10000, 0}, {-10000, -10000}, {MIN, 0}, {0, 1}, {-5, 1}, {1, 1}, {1, 2}, {-5, -6}, {0, -1}, {-5, MAX}, {-5, MIN}, {MAX, 0}, {0, -9999}};
        for (int[] w : bad) {
            Edge.no("past(4, 0, " + w[0] + ", " + w[1] + ")", x -> x.past(4, 0, w[0], w[1]), BAD);
            Edge.no("past(4, 0, " + w[0] + ", " + w[1] + ") when FULL", Worlds::fullSpans, x -> x.past(4, 0, w[0], w[1]), BAD);
        }
        Edge.no("past(4, 0, -5, -4) when FULL", Worlds::fullSpans, x -> x.past(4, 0, -5, -4), FULL);
        PlayerMoves x = Worlds.spans(596);
        Edge.is("past(4, 0, -9999, 0)", x.past(4, 0, -9999, 0), 5);
        Edge.is("past(4, 2, -9999, -9999)", x.past(4, 2, -9999, -9999), 6);
        Edge.is("past(6, 2, 0, 0)", x.past(6, 2, 0, 0), 3);
        Edge.is("past(6, 2, -1, 0), the 600th", x.past(6, 2, -1, 0), 4);
        Edge.is("past(6, 2, -1, 0), a 601st", x.past(6, 2, -1, 0), FULL);
        Edge.is("HOLDER on -9999", x.at(4, -9999, 0), 2);
        Edge.is("HOLDER on -9998", x.at(4, -9998, 0), 0);
    }

    private static void p13SpansBad() {
        Edge.p(13, "n (1 .. 20) threes: how many came (0 with i below 0: his papers LACK then). BAD");
        for (int who : NO_PLAYERS) {
            Edge.no("spans(" + who + ", 0, 1, 1)", x -> x.spans(who, 0, 1, 1), BAD);
        }
        int[] shelves = {-1, 6, MAX, MIN};
        for (int shelf : shelves) {
            Edge.no("spans(4, " + shelf + ", 1, 1)", x -> x.spans(4, shelf, 1, 1), BAD);
        }
        int[] numbers = {0, -1, 21, MAX, MIN};
        for (int n : numbers) {
            Edge.no("spans(4, 0, 1, " + n + ")", x -> x.spans(4, 0, 1, n), BAD);
            Edge.no("spans(4, 1, 1, " + n + ") of nothing", x -> x.spans(4, 1, 1, n), BAD);
            Edge.no("spans(4, 2, 1, " + n + ") of a BODY", x -> x.spans(4, 2, 1, n), BAD);
            Edge.no("spans(4, 0, -1, " + n + ")", x -> x.spans(4, 0, -1, n), BAD);
        }
    }

    private static void p13OtherKind() {
        Edge.p(13, "-12 (no ROW of shorts; a SHELF that holds nothing is missing)");
        int[] shelves = {2, 3, 4};
        for (int shelf : shelves) {
            Edge.no("spans(4, " + shelf + ", 0, 1)", x -> x.spans(4, shelf, 0, 1), -12);
            Edge.no("spans(4, " + shelf + ", -1, 20)", x -> x.spans(4, shelf, -1, 20), -12);
            Edge.no("spans(7, " + shelf + ", 0, 1) of one who LACKS", x -> x.spans(7, shelf, 0, 1), -12);
            Edge.no("spans(4, " + shelf + ", 0, 1) when FULL", Worlds::fullSpans, x -> x.spans(4, shelf, 0, 1), -12);
        }
        for (int sort = 0; sort < 5; sort++) {
            PlayerMoves x = Worlds.busy();
            x.row(3, sort, 0);
            Edge.is("spans of an empty ROW of sort " + sort, x.spans(4, 3, 0, 1), sort == 1 ? 0 : -12);
            x.row(3, sort, 60);
            Edge.is("spans of a ROW of sort " + sort, x.spans(4, 3, 0, 20), sort == 1 ? 20 : -12);
        }
        PlayerMoves x = Worlds.busy();
        Edge.is("spans(4, 1, 0, 1) of nothing", x.spans(4, 1, 0, 1), 0);
        Edge.is("his papers LACK", x.ofBody(4, 9), 1);
        Edge.is("no SPAN came", x.ofBody(4, 6), 4);
    }

    private static void p13HowManyCame() {
        Edge.p(13, "PAST SPANS FROM A ROW on a SHELF, from place i on, n (1 .. 20) threes: how many came");
        PlayerMoves x = Worlds.busy();
        Edge.is("spans(7, 0, 1, 1)", x.spans(7, 0, 1, 1), 1);
        Edge.is("LACK no more", x.ofBody(7, 9), 0);
        Edge.is("spans(7, 0, 4, 1)", x.spans(7, 0, 4, 1), 1);
        Edge.is("spans(7, 0, 1, 2)", x.spans(7, 0, 1, 2), 2);
        Edge.is("his SPANS", x.ofBody(7, 6), 4);
        Edge.is("HOLDER on -50", x.at(7, -50, 0), 0);
        Edge.is("HOLDER on -40", x.at(7, -40, 0), 0);
        Edge.is("HOLDER on -39", x.at(7, -39, 0), NOT);
        Edge.is("HOLDER on 0", x.at(7, 0, 0), 2);
        Edge.is("HOLDER on -30", x.at(7, -30, 0), 2);
        int[] all = new int[60];
        for (int i = 0; i < 60; i += 3) {
            all[i] = i / 3 % 3;
            all[i + 1] = -10000 + i / 3 + 1;
            all[i + 2] = -10000 + i / 3 + 1;
        }
        Worlds.row(x, 3, all);
        Edge.is("20 threes of a ROW of 60", x.spans(6, 3, 0, 20), 20);
        Edge.is("his SPANS", x.ofBody(6, 6), 22);
        for (int i = 0; i < 20; i++) {
            Edge.is("HOLDER by three " + i, x.at(6, -9999 + i, 0), i % 3);
        }
        Edge.is("the last three of a ROW of 60", x.spans(6, 3, 57, 1), 1);
        Edge.is("two threes from the last one on", x.spans(6, 3, 57, 2), 1);
        Edge.is("his papers LACK", x.ofBody(6, 9), 1);
        Edge.is("from place 58", x.spans(6, 3, 58, 1), 0);
    }

    private static void p13PlaceBelowZero() {
        Edge.p(13, "(0 with i below 0: his papers LACK then)");
        int[] places = {-1, -2, -3, -60, MIN, MIN + 1};
        for (int i : places) {
            PlayerMoves x = Worlds.busy();
            Edge.is("spans(4, 0, " + i + ", 1)", x.spans(4, 0, i, 1), 0);
            Edge.is("his papers LACK", x.ofBody(4, 9), 1);
            Edge.is("no SPAN came", x.ofBody(4, 6), 4);
            Edge.is("spans(4, 0, " + i + ", 20)", x.spans(4, 0, i, 20), 0);
            Edge.is("no SPAN came", x.count(3), 9);
            Edge.is("of nothing", x.spans(6, 1, i, 1), 0);
            Edge.is("his papers LACK", x.ofBody(6, 9), 1);
        }
    }

    private static void p13Full() {
        Edge.p(13, "FULL SPANS end it likewise (asked ahead of each three), but papers stay as they were.");
        Edge.no("spans(4, 0, 1, 2) when FULL", Worlds::fullSpans, x -> x.spans(4, 0, 1, 2), 0);
        Edge.no("spans(7, 0, 1, 2) of one who LACKS when FULL", Worlds::fullSpans, x -> x.spans(7, 0, 1, 2), 0);
        Edge.no("a wrong three when FULL", Worlds::fullSpans, x -> x.spans(4, 0, 0, 1), 0);
        Edge.no("a place below 0 when FULL", Worlds::fullSpans, x -> x.spans(4, 0, -1, 1), 0);
        Edge.no("a missing row when FULL", Worlds::fullSpans, x -> x.spans(4, 1, 0, 1), 0);
        Edge.no("a row that ends when FULL", Worlds::fullSpans, x -> x.spans(4, 0, 10, 1), 0);
        PlayerMoves x = Worlds.spans(598);
        Edge.is("two threes up to FULL", x.spans(7, 0, 1, 2), 2);
        Edge.is("a whole one: LACK no more", x.ofBody(7, 9), 0);
        PlayerMoves y = Worlds.spans(599);
        Edge.is("one of two threes up to FULL", y.spans(7, 0, 1, 2), 1);
        Edge.is("papers stay as they were: LACK", y.ofBody(7, 9), 1);
        Edge.is("count(3)", y.count(3), 600);
        PlayerMoves z = Worlds.spans(599);
        Edge.is("one of two threes up to FULL", z.spans(4, 0, 1, 2), 1);
        Edge.is("papers stay as they were: whole", z.ofBody(4, 9), 0);
        PlayerMoves w = Worlds.spans(598);
        Edge.is("two of three threes up to FULL, the third being wrong", w.spans(4, 0, 1, 3), 2);
        Edge.is("FULL is asked ahead of the third", w.ofBody(4, 9), 0);
        PlayerMoves v = Worlds.spans(597);
        Edge.is("two of three threes, the third being wrong", v.spans(4, 0, 1, 3), 2);
        Edge.is("the third is read", v.ofBody(4, 9), 1);
    }

    private static void p13WrongThrees() {
        Edge.t(7, "by threes: a CLUB, from, to (DAYS -9999 .. 0, from at most to): n of them for a PLAYER; it ends where the row is missing, ends ahead of n"
            + " threes, or has one that is not so: then his papers LACK (till a later row comes whole). What came ahead stays.");
        int[][] wrong = {{-1, -5, -4}, {3, -5, -4}, {4, -5, -4}, {8, -5, -4}, {10, -5, -4}, {32767, -5, -4}, {-32768, -5, -4}, {0, -10000, -4}, {0, -10000, -10000},
            {0, -32768, 0}, {0, -5, 1}, {0, 1, 1}, {0, 0, 1}, {0, -4, -5}, {0, 0, -1}, {0, 0, -9999}, {0, -5, 32767}, {0, -5, -32768}};
        for (int[] w : wrong) {
            String three = w[0] + ", " + w[1] + ", " + w[2];
            PlayerMoves x = Worlds.busy();
            Worlds.row(x, 3, 0, -9999, 0, w[0], w[1], w[2], 2, -9999, -9999, 1, 0, 0);
            Edge.is("ahead of the wrong three " + three, x.spans(4, 3, 0, 4), 1);
            Edge.is("his papers LACK", x.ofBody(4, 9), 1);
            Edge.is("what came ahead stays", x.ofBody(4, 6), 5);
            Edge.is("what came ahead stays", x.at(4, -9999, 0), 0);
            Edge.is("from the wrong three on", x.spans(4, 3, 3, 3), 0);
            Edge.is("his papers LACK still", x.ofBody(4, 9), 1);
            Edge.is("a later row that is whole", x.spans(4, 3, 6, 2), 2);
            Edge.is("his papers LACK no more", x.ofBody(4, 9), 0);
            Edge.is("HOLDER by it", x.at(4, -9999, 0), 2);
            Edge.is("HOLDER by it", x.at(4, 0, 0), 1);
            Edge.is("another's papers as they were", x.ofBody(7, 9), 1);
        }
    }

    private static void p13RowMissingOrShort() {
        Edge.t(7, "it ends where the row is missing, ends ahead of n threes");
        int[][] asked = {{0, 2, 2}, {0, 3, 2}, {0, 20, 2}, {1, 1, 1}, {1, 2, 2}, {2, 2, 1}, {4, 2, 1}, {3, 1, 1}, {4, 1, 1}, {5, 1, 0}, {6, 1, 0}, {7, 1, 0}, {8, 1, 0}, {59, 1, 0},
            {60, 1, 0}, {61, 1, 0}, {MAX, 1, 0}, {MAX - 1, 20, 0}, {MAX - 2, 1, 0}};
        for (int[] w : asked) {
            PlayerMoves x = Worlds.busy();
            Worlds.row(x, 3, 0, 0, 0, 0, 0, 0, 0);
            Edge.is("spans(4, 3, " + w[0] + ", " + w[1] + ") of 7 elements", x.spans(4, 3, w[0], w[1]), w[2]);
            Edge.is("whether his papers LACK", x.ofBody(4, 9), w[1] == w[2] ? 0 : 1);
            Edge.is("SPANS that came", x.ofBody(4, 6), 4 + w[2]);
        }
        PlayerMoves x = Worlds.busy();
        x.row(3, 1, 0);
        Edge.is("of 0 elements", x.spans(4, 3, 0, 1), 0);
        Edge.is("his papers LACK", x.ofBody(4, 9), 1);
        x.row(3, 1, 2);
        Edge.is("of 2 elements", x.spans(4, 3, 0, 1), 0);
        x.row(3, 1, 3);
        Edge.is("of 3 elements", x.spans(4, 3, 0, 1), 1);
        x.keep(3, -1);
        Edge.is("of a SHELF that holds nothing again", x.spans(4, 3, 0, 1), 0);
        Edge.is("his papers LACK", x.ofBody(4, 9), 1);
    }

    private static void p14Sign() {
        Edge.p(14, "BAD (till TODAY .. 2999), NOT: he is not FREE; FULL.");
        for (int who : NO_PLAYERS) {
            Edge.no("sign(" + who + ", 0, 20, 5)", x -> x.sign(who, 0, 20, 5), BAD);
        }
        for (int club : NO_CLUBS) {
            Edge.no("sign(7, " + club + ", 20, 5)", x -> x.sign(7, club, 20, 5), BAD);
        }
        int[][] bad = {{9, 5}, {0, 5}, {-1, 5}, {3000, 5}, {MAX, 5}, {MIN, 5}, {20, -1}, {20, 100000}, {20, MAX}, {20, MIN}};
        for (int[] w : bad) {
            Edge.no("sign(7, 0, " + w[0] + ", " + w[1] + ")", x -> x.sign(7, 0, w[0], w[1]), BAD);
            Edge.no("sign(4, 0, " + w[0] + ", " + w[1] + ") of one who is not FREE", x -> x.sign(4, 0, w[0], w[1]), BAD);
            Edge.no("sign(7, 0, " + w[0] + ", " + w[1] + ") when FULL", Worlds::fullSpans, x -> x.sign(7, 0, w[0], w[1]), BAD);
        }
        Edge.no("sign(4, 0, 20, 5)", x -> x.sign(4, 0, 20, 5), NOT);
        Edge.no("sign(4, 1, 20, 5) by his OWNER", x -> x.sign(4, 1, 20, 5), NOT);
        Edge.no("sign(5, 0, 20, 5) of a lent one", x -> x.sign(5, 0, 20, 5), NOT);
        Edge.no("sign(6, 2, 20, 5)", x -> x.sign(6, 2, 20, 5), NOT);
        Edge.no("sign(4, 0, 20, 5) when FULL", Worlds::fullSpans, x -> x.sign(4, 0, 20, 5), NOT);
        Edge.no("sign(7, 0, 20, 5) when FULL", Worlds::fullSpans, x -> x.sign(7, 0, 20, 5), FULL);
        PlayerMoves x = Worlds.spans(599);
        Edge.is("sign(7, 0, 10, 99999), the 600th", x.sign(7, 0, 10, 99999), 1);
        Edge.is("WAGE", x.ofBody(7, 8), 99999);
        Edge.is("CONTRACT till TODAY", x.ofBody(7, 7), 10);
        PlayerMoves y = Worlds.busy();
        Edge.is("sign(7, 2, 2999, 0)", y.sign(7, 2, 2999, 0), 1);
        Edge.is("OWNER on 2999", y.at(7, 2999, 1), 2);
        Edge.is("OWNER on 9", y.at(7, 9, 1), NOT);
        Edge.p(14, "A FREE PLAYER comes to a CLUB TODAY by a CONTRACT: 1.");
        PlayerMoves z = Worlds.lastDay();
        Edge.is("sign till 2998 on 2999", z.sign(7, 0, 2998, 1), BAD);
        Edge.is("sign till 2999 on 2999", z.sign(7, 0, 2999, 1), 1);
        Edge.is("OWNER on 2999", z.ofBody(7, 5), 0);
    }

    private static void p15At() {
        Edge.p(15, "HOLDER (what 0), OWNER (1) of a PLAYER on a DAY (-9999 .. 2999); NOT: none. BAD.");
        for (int who : NO_PLAYERS) {
            Edge.no("at(" + who + ", 0, 0)", x -> x.at(who, 0, 0), BAD);
        }
        int[][] bad = {{-10000, 0}, {MIN, 1}, {3000, 0}, {3000, 1}, {MAX, 1}, {0, -1}, {0, 2}, {0, MAX}, {0, MIN}};
        for (int[] w : bad) {
            Edge.no("at(4, " + w[0] + ", " + w[1] + ")", x -> x.at(4, w[0], w[1]), BAD);
        }
        int[][] due = {{-9999, 0, NOT}, {-9999, 1, NOT}, {2999, 0, NOT}, {2999, 1, NOT}, {-2401, 0, NOT}, {-2400, 0, 2}, {-1000, 0, 2}, {-999, 0, 1}, {-1, 0, 1},
            {-1, 1, NOT}, {0, 0, 1}, {0, 1, 1}, {1200, 0, 1}, {1200, 1, 1}, {1201, 0, NOT}, {1201, 1, NOT}};
        for (int[] w : due) {
            Edge.no("at(4, " + w[0] + ", " + w[1] + ")", x -> x.at(4, w[0], w[1]), w[2]);
        }
        Edge.no("at(6, 2999, 0)", x -> x.at(6, 2999, 0), 0);
        Edge.no("at(6, 2999, 1)", x -> x.at(6, 2999, 1), 0);
        Edge.no("at(7, 10, 0)", x -> x.at(7, 10, 0), NOT);
    }

    private static void p16Taught() {
        Edge.p(16, "Days for which a CLUB TAUGHT a PLAYER (up to TODAY). BAD.");
        for (int who : NO_PLAYERS) {
            Edge.no("taught(" + who + ", 0)", x -> x.taught(who, 0), BAD);
        }
        for (int club : NO_CLUBS) {
            Edge.no("taught(4, " + club + ")", x -> x.taught(4, club), BAD);
        }
        int[][] due = {{4, 0, 0}, {4, 1, 999 + 11}, {4, 2, 1401}, {5, 0, 1001}, {5, 1, 0}, {6, 0, 11}, {6, 1, 0}, {7, 0, 0}};
        for (int[] w : due) {
            Edge.no("taught(" + w[0] + ", " + w[1] + ")", x -> x.taught(w[0], w[1]), w[2]);
        }
    }

    private static void t2AtMost600() {
        Edge.t(2, "REGISTERED is a PLAYER at a CLUB by SPANS, at most 600 in all");
        PlayerMoves x = Worlds.spans(599);
        Edge.is("sell(6, 1), the 600th", x.sell(6, 1), 3);
        Edge.is("count(3)", x.count(3), 600);
        Edge.is("undo(3)", x.undo(3), 1);
        Edge.is("an UNDONE one is still told", x.count(3), 600);
        Edge.is("sell(6, 1), a 601st", x.sell(6, 1), FULL);
        Edge.is("lend(6, 1), a 601st", x.lend(6, 1), FULL);
        Edge.is("option(1), a 601st", x.option(1), FULL);
        Edge.is("past, a 601st", x.past(7, 0, 0, 0), FULL);
        Edge.is("sign, a 601st", x.sign(7, 0, 2999, 0), FULL);
        Edge.is("spans, a 601st", x.spans(7, 0, 1, 1), 0);
        PlayerMoves y = Worlds.spans(599);
        Edge.is("lend(6, 1), the 600th", y.lend(6, 1), 3);
        PlayerMoves z = Worlds.spans(599);
        Edge.is("option(1), the 600th", z.option(1), 3);
        Edge.is("count(3)", z.count(3), 600);
    }

    private static void t2SortsOfSpans() {
        Edge.t(2, "PAST ones (told from a DAY to a DAY, up to DAY 0), OWN ones (from TODAY to the CONTRACT's till), LOANS (from TODAY to the LOAN's till).");
        PlayerMoves x = Worlds.busy();
        x.past(7, 2, -7, 0);
        x.sign(7, 0, 20, 0);
        int[] days = {-8, -7, 0, 1, 9, 10, 20, 21};
        int[] holders = {NOT, 2, 2, NOT, NOT, 0, 0, NOT};
        int[] owners = {NOT, NOT, NOT, NOT, NOT, 0, 0, NOT};
        for (int i = 0; i < days.length; i++) {
            Edge.is("HOLDER on " + days[i], x.at(7, days[i], 0), holders[i]);
            Edge.is("OWNER on " + days[i], x.at(7, days[i], 1), owners[i]);
        }
        x.days(2);
        x.term(7, 15);
        x.lend(7, 1);
        int[] lent = {0, 1, 1, 1, 1, 0};
        for (int i = 0; i < lent.length; i++) {
            Edge.is("HOLDER on " + (11 + i), x.at(7, 11 + i, 0), lent[i]);
            Edge.is("OWNER on " + (11 + i), x.at(7, 11 + i, 1), 0);
        }
        x.term(7, 12);
        x.lend(6, 1);
        Edge.is("HOLDER by a LOAN till TODAY", x.at(6, 12, 0), 1);
        Edge.is("HOLDER behind it", x.at(6, 13, 0), 0);
    }

    private static void t2Undone() {
        Edge.t(2, "A SPAN of an UNDONE MOVE is none from the DAY of UNDOING on.");
        PlayerMoves x = Worlds.busy();
        x.sell(6, 1);
        x.days(5);
        x.undo(3);
        int[] days = {9, 10, 14, 15, 16, 1200, 1201, 2999};
        int[] holders = {0, 1, 1, 0, 0, 0, 0, 0};
        for (int i = 0; i < days.length; i++) {
            Edge.is("HOLDER on " + days[i], x.at(6, days[i], 0), holders[i]);
            Edge.is("OWNER on " + days[i], x.at(6, days[i], 1), holders[i]);
        }
        x.sell(6, 1);
        x.undo(4);
        Edge.is("UNDONE on its own DAY: OWNER", x.at(6, 15, 1), 0);
        Edge.is("UNDONE on its own DAY: HOLDER", x.at(6, 15, 0), 0);
        x.term(7, 16);
        x.lend(6, 1);
        x.days(10);
        Edge.is("UNDONE behind its till", x.undo(5), 1);
        Edge.is("HOLDER on its last DAY", x.at(6, 16, 0), 1);
        Edge.is("HOLDER behind it", x.at(6, 17, 0), 0);
        Edge.is("SPANS, UNDONE ones, too", x.ofBody(6, 6), 5);
    }

    private static void t2Owner() {
        Edge.t(2, "of the OWN SPANS that began by that DAY (and are some on it) the one told last: its CLUB, if its till is that DAY or later; else none; the OWN"
            + " SPANS told ahead of that one lie on the DAY no more.");
        PlayerMoves x = Worlds.busy();
        x.term(1, 14);
        x.sell(6, 1);
        int[] days = {9, 10, 14, 15, 16, 2999};
        int[] owners = {0, 1, 1, NOT, NOT, NOT};
        for (int i = 0; i < days.length; i++) {
            Edge.is("OWNER on " + days[i], x.at(6, days[i], 1), owners[i]);
            Edge.is("HOLDER on " + days[i], x.at(6, days[i], 0), owners[i]);
        }
        x.days(4);
        Edge.t(2, "FREE: without an OWNER TODAY.");
        Edge.is("not FREE on his till", x.sign(6, 2, 20, 0), NOT);
        Edge.is("FREE PLAYERS", x.count(9), 1);
        x.days(1);
        Edge.is("FREE PLAYERS behind his till", x.count(9), 2);
        Edge.is("FREE behind his till", x.sign(6, 2, 15, 0), 1);
        Edge.is("OWNER on 15", x.at(6, 15, 1), 2);
        Edge.is("OWNER on 16", x.at(6, 16, 1), NOT);
        Edge.is("OWNER on 14", x.at(6, 14, 1), 1);
        x.past(6, 0, 0, 0);
        Edge.is("a PAST SPAN makes no OWNER", x.at(6, 15, 1), 2);
        Edge.is("a PAST SPAN makes no OWNER", x.at(6, -1, 1), NOT);
    }

    private static void t2Holder() {
        Edge.t(2, "HOLDER on a DAY: of all SPANS that lie on it the one told last: its CLUB.");
        PlayerMoves x = Worlds.busy();
        x.past(7, 0, -20, -10);
        x.past(7, 1, -15, -12);
        x.past(7, 2, -13, -5);
        int[] holders = {NOT, 0, 0, 1, 1, 2, 2, 2, 2, NOT};
        int[] days = {-21, -20, -16, -15, -14, -13, -12, -10, -5, -4};
        for (int i = 0; i < days.length; i++) {
            Edge.is("HOLDER on " + days[i], x.at(7, days[i], 0), holders[i]);
        }
        x.past(6, 2, 0, 0);
        Edge.is("a PAST SPAN told behind an OWN one", x.at(6, 0, 0), 2);
        Edge.is("the OWNER stays", x.at(6, 0, 1), 0);
        Edge.is("HOLDER of the next DAY", x.at(6, 1, 0), 0);
        x.sell(5, 0);
        Edge.is("an OWN SPAN told behind a LOAN", x.ofBody(5, 5), 0);
        x.term(1, 10);
        x.sell(5, 1);
        x.days(1);
        Edge.is("the LOAN lies on behind the CONTRACT", x.ofBody(5, 4), 0);
        Edge.is("but he is FREE", x.ofBody(5, 5), -1);
    }

    private static void t2Contract() {
        Edge.t(2, "till a DAY, WAGE (0 .. 99999 a YEAR), FEE (what was paid), SPREAD over so many YEARS (1 .. 5) from the YEAR of the sale on: of each YEAR"
            + " FEE / SPREAD, cut, the rest in the first one.");
        int[][] dues = {{14}, {7, 7}, {6, 4, 4}, {5, 3, 3, 3}, {6, 2, 2, 2, 2}};
        for (int spread = 1; spread <= 5; spread++) {
            PlayerMoves x = Worlds.fresh();
            x.club(5, 0, 0);
            x.club(5, 0, 100);
            x.player(2, 0, 0, -1);
            x.window(0, 0, 2999);
            x.sign(2, 0, 2999, 0);
            Due.until(x, 599);
            Worlds.terms(x, 14, 599, 99999, spread);
            Edge.is("CAP of the YEAR ahead", x.squad(1, 4), 0);
            Edge.is("sell(2, 1)", x.sell(2, 1), 0);
            Edge.is("CAP of its own YEAR", x.squad(1, 4), 99999 + dues[spread - 1][0]);
            int two = 0;
            int one = dues[spread - 1][0];
            for (int year = 2; year <= 8; year++) {
                Due.until(x, 300 * year);
                int part = year - 1 < spread ? dues[spread - 1][year - 1] : 0;
                Edge.is("CAP of YEAR " + year + " SPREAD over " + spread, x.squad(1, 4), part);
                Edge.is("THREE YEARS' CAPS of YEAR " + year + " SPREAD over " + spread, x.squad(1, 5), part + one + two);
                two = one;
                one = part;
            }
        }
    }

    private static void t2Taught() {
        Edge.t(2, "TAUGHT: days REGISTERED (HOLDER) at ages 12 to 22 (AGE on that DAY), by CLUBS.");
        PlayerMoves x = Worlds.fresh();
        x.club(5, 0, 0);
        x.club(7, 1, 0);
        x.player(2, -6900, 0, -1);
        x.player(2, -6899, 0, -1);
        x.player(2, -3601, 0, -1);
        x.player(2, -3599, 0, -1);
        for (int who = 2; who <= 5; who++) {
            x.past(who, 0, -9999, 0);
        }
        Edge.is("23 on DAY 0", x.taught(2, 0), 3300);
        Edge.is("the last day of 22 on DAY 0", x.taught(3, 0), 3300);
        Edge.is("the second day of 12 on DAY 0", x.taught(4, 0), 2);
        Edge.is("the last day of 11 on DAY 0", x.taught(5, 0), 0);
        for (int who = 2; who <= 5; who++) {
            x.sign(who, 1, 2999, 0);
        }
        Edge.is("no day of 23", x.taught(2, 1), 0);
        Edge.is("TODAY is the SCHOOL's", x.taught(3, 1), 1);
        Edge.is("and not the CLUB's", x.taught(3, 0), 3299);
        Edge.is("of 12", x.taught(4, 1), 1);
        Edge.is("of 11", x.taught(5, 1), 0);
        x.days(1);
        Edge.is("no day of 23", x.taught(3, 1), 1);
        Edge.is("two days of 12", x.taught(4, 1), 2);
        Edge.is("the first day of 12", x.taught(5, 1), 1);
        Due.until(x, 2999);
        Edge.is("of all days", x.taught(5, 1), 2999);
        Edge.is("born last", x.player(2, 0, 0, -1), 6);
        x.sign(6, 0, 2999, 0);
        Edge.is("AGE 9", x.taught(6, 0), 0);
        PlayerMoves y = Worlds.fresh();
        y.club(5, 0, 0);
        y.player(2, -9000, 0, -1);
        y.past(1, 0, -9999, 0);
        Edge.is("born first", y.taught(1, 0), 3300);
    }

    private static void t2TaughtByStretches() {
        Edge.t(2, "TAUGHT: days REGISTERED (HOLDER) at ages 12 to 22 (AGE on that DAY), by CLUBS.");
        PlayerMoves x = Worlds.fresh();
        x.club(5, 0, 100);
        x.club(5, 3, 100);
        x.player(2, -5000, 0, -1);
        x.past(2, 0, -1000, -991);
        x.past(2, 1, -989, -989);
        Edge.is("no SPAN on the day between", x.taught(2, 0), 10);
        Edge.is("a SPAN of a day", x.taught(2, 1), 1);
        x.past(2, 1, -995, -990);
        Edge.is("told last, from a day within on", x.taught(2, 0), 5);
        Edge.is("told last, up to the next", x.taught(2, 1), 7);
        PlayerMoves y = Worlds.fresh();
        y.club(5, 0, 100);
        y.club(5, 3, 100);
        y.player(2, -5000, 0, -1);
        y.past(2, 1, -989, -989);
        y.past(2, 0, -1000, -991);
        Edge.is("no SPAN on the day between, told the other way round", y.taught(2, 0), 10);
        Edge.is("a SPAN of a day, told the other way round", y.taught(2, 1), 1);
        x.past(2, 0, -993, -993);
        Edge.is("a day within that one", x.taught(2, 0), 6);
        Edge.is("the days around it", x.taught(2, 1), 6);
        x.sign(2, 0, 2999, 0);
        x.window(3, 0, 2999);
        x.term(7, 50);
        x.days(10);
        x.lend(2, 1);
        x.days(10);
        Edge.is("by the borrower TODAY, too", x.taught(2, 1), 6 + 11);
        Edge.is("by the OWNER ahead of the LOAN", x.taught(2, 0), 6 + 10);
        x.undo(0);
        Edge.is("UNDONE: TODAY no more", x.taught(2, 1), 6 + 10);
        Edge.is("UNDONE: TODAY is the OWNER's", x.taught(2, 0), 6 + 11);
        x.days(100);
        Edge.is("the borrower's days stay", x.taught(2, 1), 6 + 10);
        Edge.is("the OWNER's go on", x.taught(2, 0), 6 + 111);
    }
}
