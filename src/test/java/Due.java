/** Compares answers with those that are due, and ends a test with exit code 1 if one was not. */
final class Due {
    private static int wrong;
    private static int asked;

    private Due() {
    }

    static void is(String call, long got, long due) {
        asked++;
        if (got != due) {
            wrong++;
            System.out.println(call + " answered " + got + ", due is " + due);
        }
    }

    static void end() {
        System.out.println(asked + " answers, " + wrong + " not as due");
        if (wrong != 0) {
            System.exit(1);
        }
    }

    /** A text comes to THE TAPE. */
    static void feed(PlayerMoves x, String text) {
        for (int i = 0; i < text.length(); i += 4) {
            int n = Math.min(4, text.length() - i);
            int v = 0;
            for (int k = 0; k < n; k++) {
                v |= text.charAt(i + k) << 8 * k;
            }
            x.feed(n, v);
        }
    }

    /** A text becomes a RULE. */
    static int rule(PlayerMoves x, int what, int from, String text) {
        feed(x, text);
        return x.rule(what, from);
    }

    /** Days go by up to a DAY. */
    static void until(PlayerMoves x, int day) {
        for (int i = 0; i < 10 && x.count(6) < day; i++) {
            x.days(Math.min(300, day - x.count(6)));
        }
    }
}
