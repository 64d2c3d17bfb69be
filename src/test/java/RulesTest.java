/** Promises 26 to 31: squads, caps, rules as texts. */
public final class RulesTest {
    public static void main(String[] args) {
        squad();
        firstBody();
        feed();
        faults();
        depths();
        rule();
        inForce();
        names();
        values();
        holds();
        tryCap();
        Due.end();
    }

    private static void squad() {
        PlayerMoves x = new PlayerMoves();
        x.club(5, 0, 1000);
        x.club(5, 0, 1000);
        x.club(7, 1, 1000);
        x.player(2, -6000, 0, -1);
        x.player(4, -6000, 0, -1);
        x.player(4, -6000, 0, -1);
        Due.is("squad(3, 0)", x.squad(3, 0), -1);
        Due.is("squad(-1, 0)", x.squad(-1, 0), -1);
        Due.is("squad(0, -1)", x.squad(0, -1), -1);
        Due.is("squad(0, 7)", x.squad(0, 7), -1);
        // 899 days by the clubs of LEAGUE 0, and TODAY
        x.past(3, 0, -2400, -2001);
        x.past(3, 1, -2000, -1502);
        x.past(4, 2, -2400, -1);
        x.past(5, 0, -2400, -1);
        x.sign(3, 0, 2999, 5);
        x.sign(4, 0, 2999, 6);
        x.sign(5, 0, 2999, 7);
        int[] wants = {3, 2, 2, 18, 18, 18, 0};
        for (int what = 0; what < 7; what++) {
            Due.is("squad(0, " + what + ")", x.squad(0, what), wants[what]);
            Due.is("squad(2, " + what + ")", x.squad(2, what), 0);
        }
        x.past(3, 2, -1502, -1502);
        Due.is("898 days and TODAY", x.squad(0, 1), 1);
        x.days(1);
        Due.is("one day more", x.squad(0, 1), 2);
        x.window(1, 0, 2999);
        x.term(7, 2999);
        x.lend(4, 2);
        Due.is("of the borrower's LEAGUE", x.squad(2, 1), 1);
        Due.is("HOLDS", x.squad(2, 0), 1);
        Due.is("WAGES of the OWNER", x.squad(0, 3), 18);
        Due.is("HOLDS no more", x.squad(0, 0), 2);
        for (int year = 0; year < 10; year++) {
            x.income(0, year, 1 << year);
        }
        for (int year = 0; year < 10; year++) {
            Due.until(x, year * 300 + 1);
            int from = Math.max(0, year - 2);
            Due.is("THREE YEARS' INCOME in " + year, x.squad(0, 6), (1 << year + 1) - (1 << from));
            Due.is("THREE YEARS' CAPS in " + year, x.squad(0, 5), 18 * (year - from + 1));
        }
    }

    /** The one with number 0 counts as any. */
    private static void firstBody() {
        PlayerMoves x = new PlayerMoves();
        x.player(4, -3600, 0, -1);
        x.club(5, 0, 0);
        Due.is("count(2)", x.count(2), 1);
        Due.is("count(9)", x.count(9), 1);
        x.sign(0, 1, 5, 77);
        Due.is("squad(1, 0)", x.squad(1, 0), 1);
        Due.is("squad(1, 2)", x.squad(1, 2), 1);
        Due.is("squad(1, 3)", x.squad(1, 3), 77);
    }

    private static void feed() {
        PlayerMoves x = new PlayerMoves();
        Due.is("feed(0, 1)", x.feed(0, 1), -1);
        Due.is("feed(5, 1)", x.feed(5, 1), -1);
        Due.is("feed(-1, 1)", x.feed(-1, 1), -1);
        for (int i = 1; i <= 39; i++) {
            Due.is("feed 4", x.feed(4, 0x2b2b2b2b), 4 * i);
        }
        Due.is("feed 3", x.feed(3, 0), 159);
        Due.is("feed 2 beyond", x.feed(2, 0), -3);
        Due.is("bad feed beyond", x.feed(5, 0), -1);
        Due.is("feed 1", x.feed(1, 0), 160);
        Due.is("feed 1 beyond", x.feed(1, 0), -3);
        Due.is("count(8)", x.count(8), 160);
        Due.is("its FAULT", x.rule(0, 0), -100);
        Due.is("THE TAPE is empty", x.count(8), 0);
        Due.is("feed again", x.feed(1, 0), 1);
        x = new PlayerMoves();
        x.feed(4, 'a' | '<' << 8 | '1' << 16 | ';' << 24);
        x.feed(2, 'b' | '=' << 8 | '9' << 16);
        Due.is("the lowest byte first", x.rule(0, 0), -104);
        Due.rule(x, 0, 0, "a<1");
        Due.is("bytes above 127", Due.rule(x, 0, 0, "a<" + (char) 255), -102);
        Due.is("bytes above 127", Due.rule(x, 0, 0, "a<1" + (char) 188), -103);
    }

    private static void fault(String text, int at) {
        Due.is("FAULT of " + text, Due.rule(new PlayerMoves(), 0, 0, text), at < 0 ? 0 : -100 - at);
    }

    private static void faults() {
        String[] whole = {"a<1", "1=1", "k>h;n<y;w=c", "t-i*l/d%m+a<0", "(a)<((1))", "[a<1]", "![a<1|a>1]&a=1", "!a<1&!a<1",
            "1234567<0000000", "[[a=1]&(a)=1|!!a=1];a=1", "a+(b-1)<1"};
        for (String text : whole) {
            fault(text, text.indexOf('b'));
        }
        String[] early = {"", "a", "1", "a<", "a<1;", "a<1&", "a<1|", "!", "[", "(", "(a", "(a)", "[a<1", "a+", "a<1+", "a<(1"};
        for (String text : early) {
            fault(text, text.length());
        }
        fault("<", 0);
        fault(";", 0);
        fault("]", 0);
        fault(")", 0);
        fault(" a<1", 0);
        fault("a <1", 1);
        fault("a<1 ", 3);
        fault("a<1\n", 3);
        fault("a<1;;a<1", 4);
        fault("a<<1", 2);
        fault("a<1<1", 3);
        fault("a;a<1", 1);
        fault("aa<1", 1);
        fault("A<1", 0);
        fault("-1<1", 0);
        fault("1a<1", 1);
        fault("12345678<1", 7);
        fault("a<12345678", 9);
        fault("a<1]", 3);
        fault("[a<1)", 4);
        fault("[a<1;a<1]", 4);
        fault("(a<1)", 2);
        fault("(a]", 2);
        fault("a<!1", 2);
        fault("a<[1]", 2);
        fault("[a]", 2);
        fault("([a<1])", 1);
        fault("a&a<1", 1);
        fault("a<1&&a<1", 4);
        fault("a<1+-1", 4);
        fault("[a<1]<1", 5);
        fault("[a<1]+1", 5);
        fault("[]", 1);
        fault("a<()", 3);
        fault("a<1!a<1", 3);
        fault("a<1(", 3);
        fault("ab", 1);
        fault("b", 0);
        fault("q<1", 0);
    }

    private static void depths() {
        fault("!!!!!!!!a<1", -1);
        fault("!!!!!!!!!a<1", 8);
        fault("((((((((a))))))))<1", -1);
        fault("(((((((((a)))))))))<1", 8);
        fault("a<((((((((1))))))))", -1);
        fault("a<(((((((((1)))))))))", 10);
        fault("[[[[[[[[a<1]]]]]]]]", -1);
        fault("[[[[[[[[[a<1]]]]]]]]]", 8);
        fault("[[[[!!!!a<1]]]]", -1);
        fault("[[[[!!!!a<(1)]]]]", 10);
        fault("[[[[!!!(a)<(1)]]]]", -1);
        fault("[[[[!!!((a))<1]]]]", 8);
        fault("!!!!!!!!a<1&!!!!!!!!a<1|((((((((1))))))))=1;!!!!!!!!a<1", -1);
        fault("!!!!!!!![a<1]", 8);
        fault("!!!!!!![a<1]&!!!!!!![a<1]", -1);
        fault("[!!!!!!!a<1&!!!!!!!!a<1]", 19);
        StringBuilder most = new StringBuilder();
        for (int i = 0; i < 40; i++) {
            most.append(i == 0 ? "9=9" : ";9=9");
        }
        Due.is("160 bytes", most.append('9').length(), 160);
        fault(most.toString(), -1);
    }

    private static void rule() {
        PlayerMoves x = new PlayerMoves();
        int[] bad = {-1, -10, 3, 9, 13, 19, 23, 33, 39, 40, 100};
        Due.feed(x, "a=0");
        for (int what : bad) {
            Due.is("rule(" + what + ", 0)", x.rule(what, 0), -1);
            Due.is("inForce(" + what + ", 0, 0)", x.inForce(what, 0, 0), -1);
        }
        Due.is("rule from -1", x.rule(0, -1), -1);
        Due.is("rule from 3000", x.rule(0, 3000), -1);
        Due.is("THE TAPE stays", x.count(8), 3);
        Due.is("rule from 2999", x.rule(0, 2999), 0);
        Due.is("THE TAPE is empty", x.count(8), 0);
        for (int i = 1; i < 16; i++) {
            Due.is("rule " + i, Due.rule(x, 32, 0, "a=" + i), i);
        }
        Due.is("count(5)", x.count(5), 16);
        Due.is("a 17th rule", Due.rule(x, 32, 0, "a=1"), -3);
        Due.is("THE TAPE stays", x.count(8), 3);
        Due.is("a bad 17th rule", x.rule(33, 0), -1);
    }

    private static void inForce() {
        PlayerMoves x = new PlayerMoves();
        x.days(10);
        Due.rule(x, 10, 50, "a=0");
        x.days(10);
        Due.rule(x, 10, 5, "a=1");
        Due.rule(x, 11, 0, "a=1");
        x.days(10);
        Due.rule(x, 10, 60, "a=2");
        int[][] asked = {{10, 4, 2999, -2}, {10, 5, 19, -2}, {10, 5, 20, 1}, {10, 50, 9, -2}, {10, 50, 10, 0}, {10, 49, 10, -2},
            {10, 50, 19, 0}, {10, 50, 20, 1}, {10, 60, 29, 1}, {10, 60, 30, 3}, {10, 59, 30, 1}, {10, 2999, 2999, 3},
            {11, 0, 20, 2}, {11, 0, 19, -2}, {0, 2999, 2999, -2}, {20, 2999, 2999, -2}, {12, 2999, 2999, -2},
            {10, -1, 0, -1}, {10, 0, -1, -1}, {10, 3000, 0, -1}, {10, 0, 3000, -1}, {10, 0, 0, -2}};
        for (int[] ask : asked) {
            Due.is("inForce(" + ask[0] + ", " + ask[1] + ", " + ask[2] + ")", x.inForce(ask[0], ask[1], ask[2]), ask[3]);
        }
    }

    /** Each name tells its figure, and a and k but for USE 0 are 0. */
    private static void names() {
        PlayerMoves x = new PlayerMoves();
        x.club(5, 3, 4000);
        x.player(3, -6100, 0, -1);
        x.player(4, -6000, 0, -1);
        x.player(2, -6000, 0, -1);
        x.club(5, 3, 0);
        x.past(2, 0, -2400, -1);
        x.window(3, 0, 2999);
        for (int p = 1; p <= 3; p++) {
            x.sign(p, p == 3 ? 4 : 0, 2999, 100);
        }
        x.income(0, 1, 30);
        x.income(0, 3, 12);
        x.income(0, 0, 9);
        Due.until(x, 600);
        x.term(0, 7);
        x.term(1, 2999);
        x.term(2, 50);
        x.term(3, 2);
        Due.is("sell(3, 0)", x.sell(3, 0), 0);
        Due.until(x, 901);
        x.past(3, 4, -2400, -2400);
        String text = "k=3;a=23;n=3;y=1;h=2;w=250;c=253;t=757;i=42;l=3;d=3;m=3993";
        Due.is("all names", Due.rule(x, 30, 0, text), 0);
        Due.is("holds(0, 0, 1)", x.holds(0, 0, 1), -2);
        Due.is("holds(0, 0, 2)", x.holds(0, 0, 2), 0);
        Due.is("another's squad", x.holds(0, 4, 1), 2);
        Due.rule(x, 31, 0, "a=0;k=0;n=3&h=2&y=1;m<3993");
        Due.is("holds(1, 0, -1)", x.holds(1, 0, -1), 3);
        Due.rule(x, 32, 0, "a=0;k=0;c>253|w>249&[t<757|i=42];m>3993");
        Due.is("holds(2, 0, -1)", x.holds(2, 0, -1), 3);
    }

    private static void value(String sum, int value) {
        PlayerMoves x = new PlayerMoves();
        x.club(5, 2, 9999999);
        Due.is("RULE " + sum, Due.rule(x, 21, 0, sum + "=0" + (value < 0 ? "-" : "+") + Math.abs((long) value)), 0);
        Due.is(sum, x.holds(1, 0, -1), -2);
    }

    private static void values() {
        value("1+2*3", 7);
        value("(1+2)*3", 9);
        value("10-3-4", 3);
        value("100/7/2", 7);
        value("100/7*7+100%7", 100);
        value("7%4*3", 9);
        value("(0-7)/2", -3);
        value("(0-7)%2", -1);
        value("7/0", 0);
        value("7%0", 0);
        value("7/(l-2)+5", 5);
        value("m", 9999999);
        value("m*m%1000", (int) (9999999L * 9999999L) % 1000);
        value("m*m/1000", (int) (9999999L * 9999999L) / 1000);
        PlayerMoves x = new PlayerMoves();
        x.club(5, 0, 0);
        String least = "(65536*32768)";
        Due.rule(x, 1, 0, least + "/(0-1)=" + least + "&" + least + "%(0-1)=0&" + least + "<0&" + least + "-1>0");
        Due.is("Ints wrap", x.holds(1, 0, -1), -2);
        Due.is("FAULT of a ninth", Due.rule(x, 1, 0, "![!![!!!(1)=2]]"), -108);
        Due.is("the deepest", Due.rule(x, 1, 0, "![!![!!(1)=2]];!!!!!!!!1=1&[[[[[[[[1=1]]]]]]]]&((((((((1))))))))=1;1=2"), 1);
        Due.is("the deepest hold", x.holds(1, 0, -1), 2);
    }

    private static void holds() {
        PlayerMoves x = new PlayerMoves();
        x.club(5, 0, 5);
        x.player(2, 0, 0, -1);
        Due.is("holds(-1, 0, -1)", x.holds(-1, 0, -1), -1);
        Due.is("holds(3, 0, -1)", x.holds(3, 0, -1), -1);
        Due.is("holds(0, 1, 1)", x.holds(0, 1, 1), -1);
        Due.is("holds(0, 0, -1)", x.holds(0, 0, -1), -1);
        Due.is("holds(0, 0, 0)", x.holds(0, 0, 0), -1);
        Due.is("holds(1, 0, 1)", x.holds(1, 0, 1), -1);
        Due.is("holds(2, 0, 1)", x.holds(2, 0, 1), -1);
        Due.is("holds(1, 0, -2)", x.holds(1, 0, -2), -1);
        Due.is("holds(1, 2, -1)", x.holds(1, 2, -1), -1);
        for (int use = 0; use < 3; use++) {
            Due.is("holds without a RULE", x.holds(use, 0, use == 0 ? 1 : -1), -2);
        }
        String[] texts = {"1=1|1=2&1=3", "[1=1|1=2]&1=3", "!1=2", "!1=1", "!!1=1", "![1=1&1=2]", "!1=2&1=2", "1<2", "2<1", "2>1", "1>2",
            "1<1", "1>1", "1=2|1=3|1=1", "1=1&1=1&1=2", "!1=1|1=1", "1=1;1=1;1=2;1=3"};
        int[] lines = {-2, 0, -2, 0, -2, -2, 0, -2, 0, -2, 0, 0, 0, -2, 0, -2, 2};
        for (int i = 0; i < texts.length; i++) {
            PlayerMoves y = new PlayerMoves();
            y.club(5, 0, 5);
            Due.rule(y, 2, 0, texts[i]);
            Due.is(texts[i], y.holds(2, 0, -1), lines[i]);
        }
        Due.rule(x, 1, 3, "1=2");
        Due.is("ahead of its DAY", x.holds(1, 0, -1), -2);
        x.days(3);
        Due.is("from its DAY on", x.holds(1, 0, -1), 0);
        Due.rule(x, 1, 4, "1=1");
        Due.is("the later one is not in force yet", x.holds(1, 0, -1), 0);
        x.days(1);
        Due.is("the later one is in force", x.holds(1, 0, -1), -2);
    }

    private static void tryCap() {
        PlayerMoves x = new PlayerMoves();
        x.club(5, 1, 5);
        x.club(7, 1, 6);
        x.club(5, 1, 7);
        x.club(5, 2, 7);
        x.body(0);
        Due.rule(x, 2, 2000, "m<6");
        Due.rule(x, 11, 0, "m<6");
        Due.is("tryCap(0, 1)", x.tryCap(0, 1), 2);
        Due.is("tryCap(0, 2)", x.tryCap(0, 2), 1);
        Due.is("tryCap(0, 0)", x.tryCap(0, 0), 0);
        Due.is("tryCap(1, 1)", x.tryCap(1, 1), -1);
        Due.is("tryCap(2, 1)", x.tryCap(2, 1), -1);
        Due.is("tryCap(-1, 1)", x.tryCap(-1, 1), -1);
        Due.is("tryCap(0, -1)", x.tryCap(0, -1), -1);
        Due.is("tryCap(0, 4)", x.tryCap(0, 4), -1);
        Due.is("nothing is in force by it", x.holds(2, 0, -1), -2);
        Due.rule(x, 22, 0, "m>5");
        Due.is("tryCap(2, 1)", x.tryCap(2, 1), 1);
    }
}
