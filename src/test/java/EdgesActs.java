/** The edges of promises 42 to 50, and of section 7 of the Terms. */
final class EdgesActs {
    private static final int BAD = PlayerMoves.BAD, NOT = PlayerMoves.NOT, FULL = PlayerMoves.FULL;
    private static final int MIN = Integer.MIN_VALUE, MAX = Integer.MAX_VALUE;
    private static final long LACKS = Long.MIN_VALUE;
    private static final int[] NO_SHELVES = {-1, 6, MAX, MIN};

    private EdgesActs() {
    }

    static void all() {
        p42Act();
        p43Trace();
        p44Keep();
        p45Row();
        p46Put();
        p46PutKeepsLowestBits();
        p47Element();
        p48ShiftOrder();
        p48ShiftPlaces();
        p48ShiftAsTheyWere();
        p49Taken();
        p50Count();
        t7Acts();
        t7Trace();
        t7Shelves();
        t7Refusals();
        t7FirstNamed();
    }

    private static void p42Act() {
        Edge.p(42, "An ACT (0 .. 3) of a BODY with x. 0, and no TRACE then: no such BODY, ACT.");
        int[][] none = {{-1, 0}, {10, 0}, {150, 0}, {MAX, 0}, {MIN, 0}, {0, -1}, {0, 4}, {0, MAX}, {0, MIN}, {10, 4}};
        for (int[] w : none) {
            PlayerMoves x = Worlds.busy();
            Edge.is("bodies that ran ahead", x.count(10), 12);
            Edge.is("act(" + w[0] + ", " + w[1] + ", 5)", x.act(w[0], w[1], 5), 0);
            Edge.is("no TRACE then", x.trace(0), BAD);
            Edge.is("none ran", x.count(10), 0);
        }
        PlayerMoves x = Worlds.busy();
        for (int body = 0; body < 10; body++) {
            for (int act = 0; act < 4; act++) {
                x.act(body, act, 5);
                Edge.is("the first one that ran by act(" + body + ", " + act + ", 5)", x.trace(0) > 0 ? 1 : 0, 1);
            }
        }
        Edge.is("of the last of 150", Worlds.fullBodies().act(149, 0, 5), 5 - 149);
        Edge.is("of one behind the last of 150", Worlds.fullBodies().act(150, 0, 5), 0);
    }

    private static void p43Trace() {
        Edge.p(43, "THE TRACE's i-th body. BAD.");
        int[] bad = {-1, 12, 13, 23, 24, 25, MAX, MIN};
        for (int i : bad) {
            Edge.no("trace(" + i + ")", x -> x.trace(i), BAD);
        }
        int[] ran = {31, 2, 30, 10, 40, 20, 1, 41, 11, 40, 20, 1};
        for (int k = 0; k < 12; k++) {
            int i = k;
            Edge.no("trace(" + i + ")", x -> x.trace(i), ran[i]);
        }
        PlayerMoves x = Worlds.busy();
        x.act(8, 0, 5);
        Edge.is("of the latest: trace(0)", x.trace(0), 1);
        Edge.is("of the latest: trace(1)", x.trace(1), BAD);
        Edge.is("ahead of all: trace(0)", Worlds.fresh().trace(0), BAD);
    }

    private static void p44Keep() {
        Edge.p(44, "A SHELF holds nothing (body -1), or a BODY: 1. BAD.");
        for (int shelf : NO_SHELVES) {
            Edge.no("keep(" + shelf + ", 4)", x -> x.keep(shelf, 4), BAD);
            Edge.no("keep(" + shelf + ", -1)", x -> x.keep(shelf, -1), BAD);
        }
        int[] nobody = {-2, 10, 150, MAX, MIN};
        for (int body : nobody) {
            Edge.no("keep(0, " + body + ")", x -> x.keep(0, body), BAD);
            Edge.no("keep(2, " + body + ")", x -> x.keep(2, body), BAD);
        }
        for (int shelf = 0; shelf < 6; shelf++) {
            PlayerMoves x = Worlds.busy();
            Edge.is("keep(" + shelf + ", 9)", x.keep(shelf, 9), 1);
            Edge.is("a PERSON", x.taken(shelf, 0), 1);
            Edge.is("no ROW", x.put(shelf, 0, 5), -12);
            Edge.is("keep(" + shelf + ", 0)", x.keep(shelf, 0), 1);
            Edge.is("a CLUB", x.taken(shelf, 0), 5);
            Edge.is("keep(" + shelf + ", -1)", x.keep(shelf, -1), 1);
            Edge.is("nothing", x.taken(shelf, 0), -11);
            Edge.is("keep(" + shelf + ", -1) again", x.keep(shelf, -1), 1);
            Edge.is("nothing", x.element(shelf, 0), LACKS);
            Edge.is("a ROW again", x.row(shelf, 1, 3), 1);
            Edge.is("its elements are 0", x.element(shelf, 0), 0);
            x.keep(shelf, 5);
            Edge.is("a ROW in a BODY's place", x.row(shelf, 1, 3), 1);
            Edge.is("no BODY", x.taken(shelf, 3), -12);
            Edge.is("no BODY", x.taken(shelf, 0), -12);
            x.keep(shelf, 5);
            x.keep(shelf, -1);
            Edge.is("no BODY", x.taken(shelf, 3), -11);
        }
    }

    private static void p45Row() {
        Edge.p(45, "A SHELF holds a ROW: 1. BAD (sort, n above 60); -14.");
        int[] numbers = {0, 5, 60, 61, -1, MIN, MAX};
        for (int n : numbers) {
            for (int shelf : NO_SHELVES) {
                Edge.no("row(" + shelf + ", 1, " + n + ")", x -> x.row(shelf, 1, n), BAD);
            }
            int[] sorts = {-1, 5, MAX, MIN};
            for (int sort : sorts) {
                Edge.no("row(3, " + sort + ", " + n + ")", x -> x.row(3, sort, n), BAD);
            }
        }
        for (int k = 0; k < 5; k++) {
            int sort = k;
            Edge.no("row(3, " + sort + ", 61)", x -> x.row(3, sort, 61), BAD);
            Edge.no("row(3, " + sort + ", MAX)", x -> x.row(3, sort, MAX), BAD);
            Edge.no("row(3, " + sort + ", -1)", x -> x.row(3, sort, -1), -14);
            Edge.no("row(2, " + sort + ", MIN)", x -> x.row(2, sort, MIN), -14);
            PlayerMoves x = Worlds.busy();
            Edge.is("row(3, " + sort + ", 0)", x.row(3, sort, 0), 1);
            Edge.is("put(3, 0, 1)", x.put(3, 0, 1), -13);
            Edge.is("row(3, " + sort + ", 60)", x.row(3, sort, 60), 1);
            for (int i = 0; i < 60; i++) {
                Edge.is("0 at first", x.element(3, i), 0);
                Edge.is("put(3, " + i + ", 1)", x.put(3, i, 1), 1);
            }
            Edge.is("put(3, 60, 1)", x.put(3, 60, 1), -13);
            Edge.is("row(3, " + sort + ", 1)", x.row(3, sort, 1), 1);
            Edge.is("0 at first", x.element(3, 0), 0);
            Edge.is("element(3, 1)", x.element(3, 1), LACKS);
            x.row(3, sort, 60);
            Edge.is("0 at first", x.element(3, 59), 0);
        }
    }

    private static void p46Put() {
        Edge.p(46, "Element i of a ROW becomes v: 1. BAD, -11, -12, -13.");
        int[] places = {0, -1, 60, MAX, MIN};
        for (int i : places) {
            for (int shelf : NO_SHELVES) {
                Edge.no("put(" + shelf + ", " + i + ", 5)", x -> x.put(shelf, i, 5), BAD);
            }
            Edge.no("put(1, " + i + ", 5) on nothing", x -> x.put(1, i, 5), -11);
            Edge.no("put(2, " + i + ", 5) on a BODY", x -> x.put(2, i, 5), -12);
        }
        int[][] beyond = {{0, -1}, {0, 12}, {0, 60}, {0, MAX}, {0, MIN}, {3, 4}, {3, 59}, {4, 2}, {5, 3}, {5, -1}};
        for (int[] w : beyond) {
            Edge.no("put(" + w[0] + ", " + w[1] + ", 5)", x -> x.put(w[0], w[1], 5), -13);
        }
        PlayerMoves x = Worlds.busy();
        Edge.is("put(0, 11, 5), the last", x.put(0, 11, 5), 1);
        Edge.is("put(3, 0, MIN)", x.put(3, 0, LACKS), 1);
        Edge.is("element(0, 11)", x.element(0, 11), 5);
        Edge.is("element(0, 10) as it was", x.element(0, 10), 1);
        Edge.is("element(3, 1) as it was", x.element(3, 1), 10000000000L);
    }

    private static void p46PutKeepsLowestBits() {
        Edge.t(7, "of 0 bytes, 1 shorts, 2 ints, 3 longs, 4 booleans, of 0 .. 60 elements, 0 at first (false); what is put in keeps its lowest bits (a boolean:"
            + " whether it is not 0; 1 or 0).");
        long[] puts = {0, 1, -1, 127, 128, -128, -129, 255, 256, 32767, 32768, -32768, -32769, 65535, 65536, 0x7fffffffL, 0x80000000L, -0x80000000L, -0x80000001L,
            0xffffffffL, 0x100000000L, Long.MAX_VALUE, Long.MIN_VALUE};
        long[][] due = {
            {0, 1, -1, 127, -128, -128, 127, -1, 0, -1, 0, 0, -1, -1, 0, -1, 0, 0, -1, -1, 0, -1, 0},
            {0, 1, -1, 127, 128, -128, -129, 255, 256, 32767, -32768, -32768, 32767, -1, 0, -1, 0, 0, -1, -1, 0, -1, 0},
            {0, 1, -1, 127, 128, -128, -129, 255, 256, 32767, 32768, -32768, -32769, 65535, 65536, 0x7fffffffL, -0x80000000L, -0x80000000L, 0x7fffffffL, -1, 0, -1, 0},
            puts,
            {0, 1, 1, 1, 1, 1, 1, 1, 1, 1, 1, 1, 1, 1, 1, 1, 1, 1, 1, 1, 1, 1, 1}};
        for (int sort = 0; sort < 5; sort++) {
            PlayerMoves x = Worlds.fresh();
            x.row(5, sort, 60);
            for (int i = 0; i < puts.length; i++) {
                Edge.is("put(5, " + i + ", " + puts[i] + ")", x.put(5, i, puts[i]), 1);
            }
            for (int i = 0; i < puts.length; i++) {
                Edge.is(puts[i] + " in a ROW of sort " + sort, x.element(5, i), due[sort][i]);
            }
            x.put(5, 1, 0);
            Edge.is("0 again", x.element(5, 1), 0);
            Edge.is("row(5, 5, 3)", x.row(5, 5, 3), BAD);
        }
    }

    private static void p47Element() {
        Edge.p(47, "Element i of a ROW; Long.MIN_VALUE for each of these: BAD, -11 to -13.");
        for (int shelf : NO_SHELVES) {
            Edge.no("element(" + shelf + ", 0)", x -> x.element(shelf, 0), LACKS);
        }
        int[][] none = {{1, 0}, {1, -1}, {2, 0}, {2, 60}, {0, -1}, {0, 12}, {0, 60}, {0, MAX}, {0, MIN}, {3, 4}, {4, 2}, {5, 3}};
        for (int[] w : none) {
            Edge.no("element(" + w[0] + ", " + w[1] + ")", x -> x.element(w[0], w[1]), LACKS);
        }
        long[][] due = {{0, 0, 9}, {0, 11, -9}, {3, 0, 5000000000L}, {3, 3, 20000000000L}, {4, 0, 0}, {4, 1, 1}, {5, 2, 9}};
        for (long[] w : due) {
            Edge.no("element(" + w[0] + ", " + w[1] + ")", x -> x.element((int) w[0], (int) w[1]), w[2]);
        }
    }

    private static void p48ShiftOrder() {
        Edge.p(48, "BAD, -11 (either), -12 (no ROWS, or of unlike sorts), -13 (below 0, too).");
        for (int shelf : NO_SHELVES) {
            for (int k = 0; k < 6; k++) {
                int other = k;
                Edge.no("shift(" + shelf + ", 0, " + other + ", 0, 1)", x -> x.shift(shelf, 0, other, 0, 1), BAD);
                Edge.no("shift(" + other + ", 0, " + shelf + ", 0, 1)", x -> x.shift(other, 0, shelf, 0, 1), BAD);
            }
            Edge.no("shift(" + shelf + ", -1, " + shelf + ", -1, -1)", x -> x.shift(shelf, -1, shelf, -1, -1), BAD);
        }
        for (int k = 0; k < 6; k++) {
            int other = k;
            Edge.no("from nothing to " + other, x -> x.shift(1, 0, other, 0, 1), -11);
            Edge.no("from " + other + " to nothing", x -> x.shift(other, 0, 1, 0, 1), -11);
            Edge.no("from " + other + " to nothing at places that are not there", x -> x.shift(other, -1, 1, 61, -1), -11);
            if (other != 1) {
                Edge.no("from a BODY to " + other, x -> x.shift(2, 0, other, 0, 1), -12);
                Edge.no("from " + other + " to a BODY", x -> x.shift(other, 0, 2, 0, 1), -12);
                Edge.no("from " + other + " to a BODY at places that are not there", x -> x.shift(other, -1, 2, 61, -1), -12);
            }
        }
        int[][] unlike = {{0, 3}, {0, 4}, {3, 0}, {3, 4}, {3, 5}, {4, 0}, {4, 3}, {5, 4}};
        for (int[] w : unlike) {
            Edge.no("of unlike sorts, " + w[0] + " to " + w[1], x -> x.shift(w[0], 0, w[1], 0, 1), -12);
            Edge.no("0 of unlike sorts, " + w[0] + " to " + w[1], x -> x.shift(w[0], 0, w[1], 0, 0), -12);
            Edge.no("of unlike sorts at places that are not there, " + w[0] + " to " + w[1], x -> x.shift(w[0], 61, w[1], -1, -1), -12);
        }
        for (int sort = 0; sort < 5; sort++) {
            PlayerMoves x = Worlds.busy();
            x.row(0, sort, 3);
            x.row(3, sort, 3);
            x.keep(3, 5);
            x.row(4, sort, 3);
            x.keep(4, -1);
            Edge.is("to a BODY in the place of a ROW of sort " + sort, x.shift(0, 0, 3, 0, 1), -12);
            Edge.is("from a BODY in the place of a ROW of sort " + sort, x.shift(3, 0, 0, 0, 1), -12);
            Edge.is("from a BODY to a ROW of sort " + sort, x.shift(2, 0, 0, 0, 1), -12);
            Edge.is("to nothing in the place of a ROW of sort " + sort, x.shift(0, 0, 4, 0, 1), -11);
            Edge.is("from nothing in the place of a ROW of sort " + sort, x.shift(4, 0, 0, 0, 1), -11);
            Edge.is("spans of a BODY in the place of a ROW of sort " + sort, x.spans(4, 3, 0, 1), -12);
            Edge.is("spans of nothing in the place of a ROW of sort " + sort, x.spans(4, 4, 0, 1), 0);
            Edge.is("element of a BODY in the place of a ROW of sort " + sort, x.element(3, 0), LACKS);
        }
        for (int from = 0; from < 5; from++) {
            for (int to = 0; to < 5; to++) {
                PlayerMoves x = Worlds.fresh();
                x.row(0, from, 2);
                x.row(5, to, 2);
                Edge.is("from sort " + from + " to " + to, x.shift(0, 0, 5, 0, 2), from == to ? 2 : -12);
            }
        }
    }

    private static void p48ShiftPlaces() {
        Edge.p(48, "-13 (below 0, too).");
        // shelf 0 has 12 elements, 5 has 3
        int[][] beyond = {{-1, 0, 1}, {0, -1, 1}, {0, 0, -1}, {0, 0, MIN}, {0, 0, 4}, {0, 1, 3}, {0, 3, 1}, {12, 0, 1}, {11, 0, 2}, {13, 0, 0}, {0, 4, 0}, {-1, 0, 0},
            {0, -1, 0}, {MAX, 0, 1}, {MAX, 0, 0}, {0, MAX, 0}, {0, MAX, 1}, {0, 0, MAX}, {1, 1, MAX}, {MAX, MAX, MAX}, {MIN, 0, 1}, {0, MIN, 1}, {MIN, MIN, MIN},
            {5, 0, -1}, {12, 3, -1}, {60, 0, 0}, {1, 0, MIN}, {MAX, 0, MIN}, {-1, 0, MAX}, {2, 2, 0x7ffffffe}};
        for (int[] w : beyond) {
            Edge.no("shift(0, " + w[0] + ", 5, " + w[1] + ", " + w[2] + ")", x -> x.shift(0, w[0], 5, w[1], w[2]), -13);
            Edge.no("shift(5, " + w[1] + ", 0, " + w[0] + ", " + w[2] + ")", x -> x.shift(5, w[1], 0, w[0], w[2]), -13);
        }
        int[][] good = {{0, 0, 0}, {12, 0, 0}, {0, 3, 0}, {12, 3, 0}, {11, 2, 1}, {9, 0, 3}, {10, 1, 2}, {0, 0, 3}};
        for (int[] w : good) {
            PlayerMoves x = Worlds.busy();
            Edge.is("shift(0, " + w[0] + ", 5, " + w[1] + ", " + w[2] + ")", x.shift(0, w[0], 5, w[1], w[2]), w[2]);
            for (int i = 0; i < 3; i++) {
                boolean came = i >= w[1] && i < w[1] + w[2];
                Edge.is("element(5, " + i + ")", x.element(5, i), came ? x.element(0, w[0] + i - w[1]) : 7 + i);
            }
        }
        PlayerMoves x = Worlds.busy();
        x.row(0, 1, 0);
        Edge.is("0 of a ROW of 0", x.shift(0, 0, 0, 0, 0), 0);
        Edge.is("1 of a ROW of 0", x.shift(0, 0, 0, 0, 1), -13);
        Edge.is("to a ROW of 0", x.shift(5, 0, 0, 0, 1), -13);
        x.row(3, 1, 60);
        x.row(4, 1, 60);
        Edge.is("60 of 60", x.shift(3, 0, 4, 0, 60), 60);
        Edge.is("61 of 60", x.shift(3, 0, 4, 0, 61), -13);
        Edge.is("60 of 60 from 1 on", x.shift(3, 1, 4, 0, 60), -13);
    }

    private static void p48ShiftAsTheyWere() {
        Edge.p(48, "n elements of a ROW from i on come to another one (or the same) from j on, as they all were before: n.");
        for (int i = 0; i <= 6; i++) {
            for (int j = 0; j <= 6; j++) {
                int n = 6 - Math.max(i, j);
                PlayerMoves x = Worlds.fresh();
                x.row(2, 3, 6);
                for (int k = 0; k < 6; k++) {
                    x.put(2, k, 100 + k);
                }
                Edge.is("shift(2, " + i + ", 2, " + j + ", " + n + ")", x.shift(2, i, 2, j, n), n);
                for (int k = 0; k < 6; k++) {
                    Edge.is("element(2, " + k + ")", x.element(2, k), k >= j && k < j + n ? 100 + k - j + i : 100 + k);
                }
            }
        }
    }

    private static void p49Taken() {
        Edge.p(49, "What a SHELF holds, taken for a BODY of KIND k (0 .. 7), or under it: its KIND. BAD, -11, -12.");
        int[] kinds = {-1, 8, MAX, MIN};
        for (int shelf : NO_SHELVES) {
            Edge.no("taken(" + shelf + ", 0)", x -> x.taken(shelf, 0), BAD);
            Edge.no("taken(" + shelf + ", 8)", x -> x.taken(shelf, 8), BAD);
        }
        for (int k : kinds) {
            for (int i = 0; i < 6; i++) {
                int shelf = i;
                Edge.no("taken(" + shelf + ", " + k + ")", x -> x.taken(shelf, k), BAD);
            }
        }
        int[] due = {3, 3, 3, 3, -12, -12, -12, -12};
        for (int i = 0; i < 8; i++) {
            int k = i;
            Edge.no("nothing taken for a " + k, x -> x.taken(1, k), -11);
            Edge.no("a ROW taken for a " + k, x -> x.taken(0, k), -12);
            Edge.no("a KEEPER taken for a " + k, x -> x.taken(2, k), due[k]);
        }
        PlayerMoves x = Worlds.fresh();
        x.body(0);
        x.keep(0, 0);
        for (int k = 0; k < 8; k++) {
            Edge.is("a BODY taken for a " + k, x.taken(0, k), k == 0 ? 0 : -12);
        }
    }

    private static void p50Count() {
        Edge.p(50, "BAD.");
        int[] bad = {-1, 11, MAX, MIN};
        for (int what : bad) {
            Edge.no("count(" + what + ")", x -> x.count(what), BAD);
            Edge.no("count(" + what + ") of a new one", Worlds::fresh, x -> x.count(what), BAD);
        }
        Edge.p(50, "How many: 0 BODIES, 1 CLUBS (SCHOOLS too), 2 PLAYERS (all KINDS of them), 3 SPANS, 4 MOVES that stand, 5 RULES, 6 DAY, 7 MINUTE, 8 bytes on THE"
            + " TAPE, 9 FREE PLAYERS, 10 bodies that ran in the latest act() (all, kept or not).");
        int[] due = {10, 3, 4, 9, 2, 4, 10, 30, 3, 1, 12};
        for (int i = 0; i < due.length; i++) {
            int what = i;
            Edge.no("count(" + what + ")", x -> x.count(what), due[what]);
        }
        Edge.is("BODIES when FULL", Worlds.fullBodies().count(0), 150);
        Edge.is("CLUBS when FULL", Worlds.fullBodies().count(1), 3);
        Edge.is("SPANS when FULL", Worlds.fullSpans().count(3), 600);
        Edge.is("MOVES that stand when FULL", Worlds.fullMoves().count(4), 199);
        Edge.is("RULES when FULL", Worlds.fullRules().count(5), 16);
        Edge.is("bytes when FULL", Worlds.tape(160).count(8), 160);
        PlayerMoves x = Worlds.lastDay();
        Edge.is("the last DAY", x.count(6), 2999);
        Edge.is("its first MINUTE", x.count(7), 0);
        x.minute(1439);
        Edge.is("its last MINUTE", x.count(7), 1439);
        Edge.is("FREE PLAYERS of the last DAY", x.count(9), 3);
    }

    private static void t7Acts() {
        Edge.t(7, "ACTS of BODIES with x (an int that wraps): 0 plays, 1 pays, 2 signs, 3 tells.");
        int[] xs = {MIN, MIN + 1, -2, -1, 0, 1, 2, MAX - 1, MAX, 0x40000000, -0x40000000, 0x55555555};
        PlayerMoves x = Worlds.busy();
        for (int v : xs) {
            for (int n = 0; n < 10; n++) {
                int more = x.ofBody(n, 0) == 5 || x.ofBody(n, 0) == 7 ? x.ofBody(n, 1) : x.ofBody(n, 0) >= 2 && x.ofBody(n, 0) <= 4 ? x.ofBody(n, 2) : 0;
                Kinds.Body by = Kinds.of(x.ofBody(n, 0), n, more);
                Edge.is("act(" + n + ", 0, " + v + ")", x.act(n, 0, v), by.plays(v));
                Edge.is("act(" + n + ", 1, " + v + ")", x.act(n, 1, v), by.pays(v));
                Edge.is("act(" + n + ", 2, " + v + ")", x.act(n, 2, v), by.signs(v));
                Edge.is("act(" + n + ", 3, " + v + ")", x.act(n, 3, v), by.tells(v));
            }
        }
        Edge.is("MIN - 8 wraps", x.act(8, 0, MIN), MAX - 7);
        Edge.is("(MIN - 9) * 2 wraps", x.act(9, 0, MIN), -18);
    }

    private static void t7Trace() {
        Edge.t(7, "THE TRACE: numbers of the bodies that ran in the latest act(), as they began; the first 24 are kept.");
        PlayerMoves x = Worlds.busy();
        for (int n = 0; n < 10; n++) {
            int kind = x.ofBody(n, 0);
            for (int act = 0; act < 4; act++) {
                Kinds.Body by = Kinds.of(kind, n, 5);
                by.act(act, 5);
                x.act(n, act, 5);
                Edge.is("how many ran by act(" + n + ", " + act + ", 5)", x.count(10), by.ran.size());
                for (int i = 0; i < by.ran.size(); i++) {
                    Edge.is("trace(" + i + ") by act(" + n + ", " + act + ", 5)", x.trace(i), by.ran.get(i));
                }
                for (int i = by.ran.size(); i < 26; i++) {
                    Edge.is("trace(" + i + ") by act(" + n + ", " + act + ", 5)", x.trace(i), BAD);
                }
            }
        }
    }

    private static void t7Shelves() {
        Edge.t(7, "SHELVES 0 .. 5 each hold nothing (at first), a BODY, or a ROW");
        PlayerMoves x = Worlds.fresh();
        x.body(0);
        for (int shelf = 0; shelf < 6; shelf++) {
            Edge.is("nothing at first", x.taken(shelf, 0), -11);
            Edge.is("row(" + shelf + ", 2, 1)", x.row(shelf, 2, 1), 1);
            Edge.is("put(" + shelf + ", 0, ..)", x.put(shelf, 0, 40 + shelf), 1);
        }
        for (int shelf = 0; shelf < 6; shelf++) {
            Edge.is("each its own ROW", x.element(shelf, 0), 40 + shelf);
        }
        Edge.is("keep(5, 0)", x.keep(5, 0), 1);
        Edge.is("the others as they were", x.element(4, 0), 44);
        Edge.is("SHELF 6", x.row(6, 2, 1), BAD);
        Edge.is("SHELF -1", x.row(-1, 2, 1), BAD);
    }

    private static void t7Refusals() {
        Edge.t(7, "The host's REFUSALS: -11 nothing is there where something is wanted; -12 it is of another kind; -13 a place that is not there; -14 a size below 0.");
        Edge.no("-11 by put", x -> x.put(1, 0, 5), -11);
        Edge.no("-11 by shift", x -> x.shift(1, 0, 0, 0, 1), -11);
        Edge.no("-11 by taken", x -> x.taken(1, 0), -11);
        Edge.no("-12 by put", x -> x.put(2, 0, 5), -12);
        Edge.no("-12 by shift", x -> x.shift(2, 0, 0, 0, 1), -12);
        Edge.no("-12 by taken", x -> x.taken(0, 0), -12);
        Edge.no("-12 by spans", x -> x.spans(4, 2, 0, 1), -12);
        Edge.no("-13 by put", x -> x.put(0, 12, 5), -13);
        Edge.no("-13 by shift", x -> x.shift(0, 0, 0, 12, 1), -13);
        Edge.no("-14 by row", x -> x.row(0, 0, -1), -14);
    }

    private static void t7FirstNamed() {
        Edge.t(7, "Answers, of several the one named first: BAD (-1): no such number, or it is not as said; NOT (-2): as told; FULL (-3); -11 to -14. VOID is"
            + " -2000000000. What is answered so changes nothing.");
        Edge.is("BAD", BAD, -1);
        Edge.is("NOT", NOT, -2);
        Edge.is("FULL", FULL, -3);
        Edge.is("VOID", PlayerMoves.VOID, -2000000000);
        Edge.no("BAD ahead of NOT: sign", x -> x.sign(4, 0, 9, 5), BAD);
        Edge.no("BAD ahead of NOT: why", x -> x.why(7, 0, 2), BAD);
        Edge.no("BAD ahead of NOT: play", x -> x.play(7, 0), BAD);
        Edge.no("BAD ahead of FULL: body", Worlds::fullBodies, x -> x.body(5), BAD);
        Edge.no("BAD ahead of FULL: past", Worlds::fullSpans, x -> x.past(4, 0, 0, -1), BAD);
        Edge.no("BAD ahead of FULL: rule", Worlds::fullRules, x -> x.rule(3, 0), BAD);
        Edge.no("BAD ahead of FULL: feed", () -> Worlds.tape(160), x -> x.feed(5, 0), BAD);
        Edge.no("BAD ahead of FULL: deal", Worlds::fullChoices, x -> x.deal(4, 1, 5, -1), BAD);
        Edge.no("BAD ahead of FULL: wish", Worlds::fullChoices, x -> x.wish(256), BAD);
        Edge.no("BAD ahead of FULL: candidate", Worlds::fullChoices, x -> x.candidate(4, 5), BAD);
        Edge.no("BAD ahead of FULL: claim", Worlds::fullChoices, x -> x.claim(4, 5), BAD);
        Edge.no("BAD ahead of FULL: window", x -> x.window(3, 1, 0), BAD);
        Edge.no("NOT ahead of FULL: sign", Worlds::fullSpans, x -> x.sign(4, 0, 20, 5), NOT);
        Edge.no("NOT ahead of FULL: sell", Worlds::fullMoves, x -> x.sell(7, 0), NOT);
        Edge.no("NOT ahead of FULL: option", Worlds::fullMoves, x -> x.option(0), NOT);
        Edge.no("BAD ahead of -11: put", x -> x.put(6, 0, 5), BAD);
        Edge.no("BAD ahead of -14: row", x -> x.row(0, 5, -1), BAD);
        Edge.no("-11 ahead of -12: shift", x -> x.shift(2, 0, 1, 0, 1), -11);
        Edge.no("-12 ahead of -13: shift", x -> x.shift(2, -1, 0, 0, 1), -12);
        Edge.no("-12 ahead of -13: put", x -> x.put(2, -1, 5), -12);
    }
}
