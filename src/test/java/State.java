import java.util.ArrayList;
import java.util.List;

/** All that can be asked of an object, as rows of text; what a question takes away is asked last. */
final class State {
    private static final int[] DAYS = {0, 1, 2, 3, 4, 5, 9, 10, 11, 20, 50, 51, 99, 100, 150, 151, 299, 300, 550, 700, 800, 801, 900, 901, 1200, 1201, 2999};
    private static final int[] PAST_DAYS = {-9999, -9998, -5000, -3000, -2401, -2400, -2000, -1000, -999, -100, -90, -50, -5, -2, -1};

    private final PlayerMoves x;
    private final List<String> rows = new ArrayList<>();

    private State(PlayerMoves x) {
        this.x = x;
    }

    static List<String> of(PlayerMoves x) {
        State state = new State(x);
        state.counts();
        state.bodies();
        state.moves();
        state.rules();
        state.shelves();
        state.choices();
        state.terms();
        state.matches();
        return state.rows;
    }

    private void add(String call, long answer) {
        rows.add(call + " = " + answer);
    }

    private void counts() {
        for (int what = 0; what <= 10; what++) {
            add("count " + what, x.count(what));
        }
        for (int i = 0; i < 24; i++) {
            add("trace " + i, x.trace(i));
        }
        for (int league = 0; league < 4; league++) {
            for (int day : DAYS) {
                add("open " + league + " " + day, x.open(league, day));
            }
        }
    }

    private boolean isClub(int body) {
        return x.ofBody(body, 0) == 5 || x.ofBody(body, 0) == 7;
    }

    private boolean isPlayer(int body) {
        return x.ofBody(body, 0) >= 2 && x.ofBody(body, 0) <= 4;
    }

    private void bodies() {
        for (int body = 0; body < Math.min(160, x.count(0)); body++) {
            for (int what = 0; what < 10; what++) {
                add("ofBody " + body + " " + what, x.ofBody(body, what));
            }
            if (isClub(body)) {
                for (int what = 0; what < 7; what++) {
                    add("squad " + body + " " + what, x.squad(body, what));
                }
            }
            if (isPlayer(body)) {
                spans(body);
            }
        }
    }

    private void spans(int player) {
        for (int day : PAST_DAYS) {
            add("HOLDER " + player + " " + day, x.at(player, day, 0));
        }
        for (int day : DAYS) {
            add("HOLDER " + player + " " + day, x.at(player, day, 0));
            add("OWNER " + player + " " + day, x.at(player, day, 1));
        }
        for (int club = 0; club < Math.min(10, x.count(0)); club++) {
            add("taught " + player + " " + club, x.taught(player, club));
            add("why " + player + " " + club, x.why(player, club, 0));
        }
    }

    private void moves() {
        for (int move = 0; move < 210 && x.ofMove(move, 0) != PlayerMoves.VOID; move++) {
            for (int what = 0; what <= 10; what++) {
                add("ofMove " + move + " " + what, x.ofMove(move, what));
            }
            for (int club = 0; club < Math.min(10, x.count(0)); club++) {
                add("share " + move + " " + club, x.share(move, club));
            }
        }
    }

    private void rules() {
        for (int what = 0; what <= 32; what++) {
            for (int d : DAYS) {
                add("inForce " + what + " " + d, x.inForce(what, d, 0));
                add("inForce " + what + " " + d, x.inForce(what, d, 10));
                add("inForce " + what + " " + d, x.inForce(what, d, 2999));
            }
        }
        for (int club = 0; club < Math.min(10, x.count(0)); club++) {
            for (int player = -1; player < Math.min(10, x.count(0)); player++) {
                add("holds " + club + " " + player, x.holds(player < 0 ? 1 : 0, club, player));
            }
            add("holds 2 " + club, x.holds(2, club, -1));
        }
        for (int rule = 0; rule < 16; rule++) {
            for (int league = 0; league < 4; league++) {
                add("tryCap " + rule + " " + league, x.tryCap(rule, league));
            }
        }
    }

    private void shelves() {
        for (int shelf = 0; shelf < 6; shelf++) {
            for (int i = 0; i <= 60; i++) {
                add("element " + shelf + " " + i, x.element(shelf, i));
            }
            for (int kind = 0; kind < 8; kind++) {
                add("taken " + shelf + " " + kind, x.taken(shelf, kind));
            }
            add("put " + shelf, x.put(shelf, 60, 0));
        }
    }

    private void choices() {
        for (int i = 0; i < 13; i++) {
            add("gets " + i, x.gets(i));
            add("got " + i, x.got(i));
        }
        add("chain", x.chain());
        add("rings", x.rings());
        add("buys", x.buys(9999999, 100, 0));
        add("part", x.part(777));
        for (int i = 0; i < 13; i++) {
            add("gets then " + i, x.gets(i));
            add("got then " + i, x.got(i));
        }
    }

    private void terms() {
        for (int what = 0; what < 9; what++) {
            add("term " + what, x.term(what, 1));
        }
        for (int league = 0; league < 4; league++) {
            add("papers " + league, x.papers(league, 0));
        }
        for (int club = 0; club < Math.min(160, x.count(0)); club++) {
            for (int year = 0; isClub(club) && year < 10; year++) {
                add("income " + club + " " + year, x.income(club, year, 0));
            }
        }
        add("rule", x.rule(0, 0));
    }

    private void matches() {
        for (int player = 0; player < Math.min(160, x.count(0)); player++) {
            if (isPlayer(player)) {
                add("play " + player, x.play(player, 1));
            }
        }
        for (int move = 0; move < 210 && x.ofMove(move, 0) != PlayerMoves.VOID; move++) {
            add("BONUS " + move, x.ofMove(move, 10));
        }
        for (int player = 0; player < Math.min(160, x.count(0)); player++) {
            for (int i = 0; isPlayer(player) && i < 20; i++) {
                x.play(player, 50);
            }
        }
        for (int move = 0; move < 210 && x.ofMove(move, 0) != PlayerMoves.VOID; move++) {
            add("BONUS then " + move, x.ofMove(move, 10));
        }
    }
}
