/** Promises 42 to 50: acts, shelves, counts. */
public final class ActsShelvesTest {
    private static final long LACKS = Long.MIN_VALUE;

    public static void main(String[] args) {
        acts();
        traces();
        shelves();
        rows();
        shifts();
        taken();
        counts();
        Due.end();
    }

    /** One of each KIND at 8 * KIND + 3, with LEAGUE 2 or WORTH 100. */
    private static PlayerMoves made() {
        PlayerMoves x = new PlayerMoves();
        for (int i = 0; i < 64; i++) {
            int kind = i % 8 == 3 ? i / 8 : 0;
            if (kind == 5 || kind == 7) {
                x.club(kind, 2, 0);
            } else if (kind >= 2 && kind <= 4) {
                x.player(kind, 0, 100, -1);
            } else {
                x.body(kind);
            }
        }
        return x;
    }

    private static void acts() {
        PlayerMoves x = made();
        int[] xs = {0, 1, -1, 1000, Integer.MAX_VALUE, Integer.MIN_VALUE, -123456789};
        for (int v : xs) {
            for (int kind = 0; kind < 8; kind++) {
                int n = 8 * kind + 3;
                Kinds.Body by = Kinds.of(kind, n, kind >= 2 && kind <= 4 ? 100 : 2);
                Due.is("plays " + kind + " " + v, x.act(n, 0, v), by.plays(v));
                Due.is("pays " + kind + " " + v, x.act(n, 1, v), by.pays(v));
                Due.is("signs " + kind + " " + v, x.act(n, 2, v), by.signs(v));
                by.ran.clear();
                Due.is("tells " + kind + " " + v, x.act(n, 3, v), by.tells(v));
                Due.is("bodies that ran", x.count(10), by.ran.size());
                for (int i = 0; i < by.ran.size(); i++) {
                    Due.is("trace(" + i + ") of " + kind, x.trace(i), by.ran.get(i));
                }
                Due.is("trace beyond", x.trace(by.ran.size()), -1);
            }
        }
    }

    private static void traces() {
        PlayerMoves x = made();
        Due.is("trace(0) ahead", x.trace(0), -1);
        Due.is("act(27, 2, 0)", x.act(27, 2, 0), 27 - 2 * 26);
        int[] ran = {41, 11, 40, 20, 1};
        for (int i = 0; i < ran.length; i++) {
            Due.is("trace(" + i + ")", x.trace(i), ran[i]);
        }
        Due.is("trace(5)", x.trace(5), -1);
        Due.is("trace(-1)", x.trace(-1), -1);
        Due.is("act(27, 4, 1)", x.act(27, 4, 1), 0);
        Due.is("no TRACE then", x.trace(0), -1);
        Due.is("none ran", x.count(10), 0);
        x.act(3, 0, 1);
        Due.is("count(10)", x.count(10), 1);
        Due.is("act(64, 0, 1)", x.act(64, 0, 1), 0);
        Due.is("no TRACE then", x.count(10), 0);
        Due.is("act(-1, 0, 1)", x.act(-1, 0, 1), 0);
        Due.is("act(0, -1, 1)", x.act(0, -1, 1), 0);
    }

    private static void shelves() {
        PlayerMoves x = made();
        Due.is("keep(-1, 0)", x.keep(-1, 0), -1);
        Due.is("keep(6, 0)", x.keep(6, 0), -1);
        Due.is("keep(0, -2)", x.keep(0, -2), -1);
        Due.is("keep(0, 64)", x.keep(0, 64), -1);
        Due.is("keep(0, 63)", x.keep(0, 63), 1);
        Due.is("keep(5, -1)", x.keep(5, -1), 1);
        Due.is("taken(5, 0)", x.taken(5, 0), -11);
        Due.is("element(0, 0) of a body", x.element(0, 0), LACKS);
        Due.is("put(0, 0, 1) on a body", x.put(0, 0, 1), -12);
        Due.is("put(0, -1, 1) on a body", x.put(0, -1, 1), -12);
        Due.is("put(1, 0, 1) on nothing", x.put(1, 0, 1), -11);
        Due.is("put(6, 0, 1)", x.put(6, 0, 1), -1);
        Due.is("put(-1, 0, 1)", x.put(-1, 0, 1), -1);
        x.row(0, 0, 2);
        Due.is("put on a ROW in a body's place", x.put(0, 1, 1), 1);
        x.keep(0, -1);
        Due.is("nothing again", x.put(0, 1, 1), -11);
    }

    private static void rows() {
        PlayerMoves x = made();
        Due.is("row(-1, 0, 1)", x.row(-1, 0, 1), -1);
        Due.is("row(6, 0, -1)", x.row(6, 0, -1), -1);
        Due.is("row(0, -1, 1)", x.row(0, -1, 1), -1);
        Due.is("row(0, 5, -1)", x.row(0, 5, -1), -1);
        Due.is("row(0, 0, 61)", x.row(0, 0, 61), -1);
        Due.is("row(0, 0, -1)", x.row(0, 0, -1), -14);
        Due.is("nothing changed", x.taken(0, 0), -11);
        Due.is("row(0, 0, 0)", x.row(0, 0, 0), 1);
        Due.is("put(0, 0, 1)", x.put(0, 0, 1), -13);
        Due.is("row(0, 0, MIN)", x.row(0, 0, Integer.MIN_VALUE), -14);
        long[] put = {0x123456789abcdef0L, -1, 128, 32768, 0x80000000L, 256, 65536, 0x100000000L, Long.MIN_VALUE};
        for (int sort = 0; sort < 5; sort++) {
            Due.is("row(1, sort, 60)", x.row(1, sort, 60), 1);
            Due.is("0 at first", x.element(1, 59), 0);
            Due.is("0 at first", x.element(1, 0), 0);
            for (int i = 0; i < put.length; i++) {
                Due.is("put(1, i, v)", x.put(1, 59 - i, put[i]), 1);
                long v = put[i];
                long due = sort == 0 ? (byte) v : sort == 1 ? (short) v : sort == 2 ? (int) v : sort == 3 ? v : 1;
                Due.is("element of sort " + sort, x.element(1, 59 - i), due);
            }
            x.put(1, 0, 5);
            x.put(1, 0, 0);
            Due.is("0 put", x.element(1, 0), 0);
            Due.is("put(1, 60, 1)", x.put(1, 60, 1), -13);
            Due.is("put(1, -1, 1)", x.put(1, -1, 1), -13);
            x.put(1, 0, 1);
            Due.is("element(1, 60)", x.element(1, 60), LACKS);
            Due.is("element(1, -1)", x.element(1, -1), LACKS);
        }
        Due.is("element(6, 0)", x.element(6, 0), LACKS);
        Due.is("element(2, 0)", x.element(2, 0), LACKS);
    }

    private static void shifts() {
        PlayerMoves x = made();
        x.row(0, 2, 5);
        x.row(1, 2, 3);
        x.row(2, 3, 3);
        x.keep(3, 0);
        for (int i = 0; i < 5; i++) {
            x.put(0, i, i + 1);
        }
        Due.is("shift(-1, ..)", x.shift(-1, 0, 1, 0, 1), -1);
        Due.is("shift(.., 6, ..)", x.shift(0, 0, 6, 0, 1), -1);
        Due.is("from nothing to a body", x.shift(4, 0, 3, 0, 1), -11);
        Due.is("from a body to nothing", x.shift(3, 0, 4, 0, 1), -11);
        Due.is("from a body", x.shift(3, 0, 0, 0, 1), -12);
        Due.is("to a body", x.shift(0, 0, 3, 0, 1), -12);
        Due.is("a body to itself", x.shift(3, 0, 3, 0, 1), -12);
        Due.is("unlike sorts", x.shift(0, -1, 2, 0, 1), -12);
        int max = Integer.MAX_VALUE;
        int[][] wrong = {{-1, 0, 1}, {0, -1, 1}, {0, 0, -1}, {0, 0, 4}, {3, 0, 3}, {0, 1, 3}, {6, 0, 0}, {0, 4, 0}, {max, 0, max}, {0, max, 1},
            {1, 0, max}, {0, 0, Integer.MIN_VALUE}};
        for (int[] w : wrong) {
            Due.is("shift(0, " + w[0] + ", 1, " + w[1] + ", " + w[2] + ")", x.shift(0, w[0], 1, w[1], w[2]), -13);
        }
        Due.is("shift of 0 at the end", x.shift(0, 5, 1, 3, 0), 0);
        Due.is("shift of 3", x.shift(0, 2, 1, 0, 3), 3);
        for (int i = 0; i < 3; i++) {
            Due.is("element(1, " + i + ")", x.element(1, i), i + 3);
        }
        Due.is("forward in the same", x.shift(0, 0, 0, 1, 4), 4);
        int[] forward = {1, 1, 2, 3, 4};
        for (int i = 0; i < 5; i++) {
            Due.is("forward element " + i, x.element(0, i), forward[i]);
        }
        Due.is("backward in the same", x.shift(0, 1, 0, 0, 4), 4);
        int[] backward = {1, 2, 3, 4, 4};
        for (int i = 0; i < 5; i++) {
            Due.is("backward element " + i, x.element(0, i), backward[i]);
        }
        Due.is("the other stays", x.element(1, 0), 3);
    }

    private static void taken() {
        PlayerMoves x = made();
        int[][] above = {{0}, {0, 1}, {0, 1, 2}, {0, 1, 2, 3}, {0, 1, 2, 4}, {0, 5}, {0, 1, 6}, {0, 5, 7}};
        for (int kind = 0; kind < 8; kind++) {
            x.keep(0, 8 * kind + 3);
            for (int k = 0; k < 8; k++) {
                int due = -12;
                for (int a : above[kind]) {
                    due = a == k ? kind : due;
                }
                Due.is("a " + kind + " taken for a " + k, x.taken(0, k), due);
            }
        }
        Due.is("taken(0, 8)", x.taken(0, 8), -1);
        Due.is("taken(0, -1)", x.taken(0, -1), -1);
        Due.is("taken(6, 0)", x.taken(6, 0), -1);
        Due.is("taken(-1, 0)", x.taken(-1, 0), -1);
        x.row(0, 0, 0);
        Due.is("a ROW taken", x.taken(0, 0), -12);
        Due.is("nothing taken", x.taken(1, 0), -11);
    }

    private static void counts() {
        PlayerMoves x = made();
        x.days(7);
        x.minute(8);
        x.feed(3, 0);
        x.sign(19, 43, 10, 0);
        x.window(2, 0, 2999);
        x.term(1, 10);
        x.sell(19, 59);
        int[] due = {64, 2, 3, 2, 1, 0, 7, 8, 3, 2, 0};
        for (int what = 0; what < due.length; what++) {
            Due.is("count(" + what + ")", x.count(what), due[what]);
        }
        Due.is("count(-1)", x.count(-1), -1);
        Due.is("count(11)", x.count(11), -1);
        x.undo(0);
        Due.is("MOVES that stand", x.count(4), 0);
        x.days(4);
        Due.is("FREE PLAYERS", x.count(9), 3);
    }
}
