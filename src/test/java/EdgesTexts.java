/** The edges of section 5 of the Terms: TEXTS, their FAULTS, what they say. */
final class EdgesTexts {
    private static final int NOT = PlayerMoves.NOT;

    private EdgesTexts() {
    }

    static void all() {
        t5Grammar();
        t5Numbers();
        t5TooEarly();
        t5GoesOn();
        t5Open();
        t5Longest();
        t5Ints();
        t5Names();
        t5Lines();
        t5CountsAmongThem();
    }

    private static void fault(String text, int at) {
        Edge.is(text, Due.rule(Worlds.fresh(), 0, 0, text), at < 0 ? 0 : -100 - at);
    }

    private static void says(String text, int line) {
        PlayerMoves x = Worlds.fresh();
        x.club(5, 3, 77);
        Edge.is("FAULT of " + text, Due.rule(x, 31, 0, text), 0);
        Edge.is(text, x.holds(1, 0, -1), line);
    }

    private static void t5Grammar() {
        Edge.t(5, "LINES, one or more, parted by ; . LINE: Q. Q = A { | A }. A = B { & B }. B = ! B, or S REL S, or [ Q ]. REL: < = >. S = P { + P, - P }."
            + " P = O { * O, / O, % O }. O = number (1 to 7 digits), NAME, ( S ). No blanks.");
        String[] whole = {"a=a", "a=a;a=a", "a=a|a=a|a=a", "a=a&a=a&a=a", "!a=a", "!!a=a", "[a=a]", "[[a=a]]", "![a=a]", "[!a=a]", "a<a", "a>a", "a+a=a-a", "a*a=a/a",
            "a%a=a", "(a)=(a)", "((a))=a", "(a+a)*a=a", "[a=a|a=a]&a=a", "a=a&[a=a|a=a]", "!a=a|!a=a", "a-a-a=a", "1=1", "0=0000000"};
        for (String text : whole) {
            fault(text, -1);
        }
        String first = "akhnywctildm0123456789![(";
        for (char c = 0; c < 256; c++) {
            fault("" + c, first.indexOf(c) >= 0 ? 1 : 0);
        }
        String operators = "+-*/%<=>";
        for (char c = 0; c < 256; c++) {
            fault("a" + c, operators.indexOf(c) >= 0 ? 2 : 1);
            fault("a=a" + c, "+-*/%;|&".indexOf(c) >= 0 ? 4 : 3);
            fault("[a=a" + c, c == ']' ? -1 : "+-*/%|&".indexOf(c) >= 0 ? 5 : 4);
            fault("(a" + c, "+-*/%)".indexOf(c) >= 0 ? 3 : 2);
            fault("a=" + c + "=", first.replace("!", "").replace("[", "").indexOf(c) < 0 ? 2 : 3);
            fault("[a=a]" + c, ";|&".indexOf(c) >= 0 ? 6 : 5);
        }
    }

    private static void t5Numbers() {
        Edge.t(5, "O = number (1 to 7 digits)");
        fault("1234567=1", -1);
        fault("12345678=1", 7);
        fault("1=1234567", -1);
        fault("1=12345678", 9);
        fault("0000000=1", -1);
        fault("00000000=1", 7);
        fault("(1234567)=1", -1);
        fault("(12345678)=1", 8);
        fault("a+1234567*1234567=1", -1);
        fault("1a=1", 1);
        fault("a1=1", 1);
        says("9999999=9999999", NOT);
        says("0000001=1&0123456=123456", NOT);
    }

    private static void t5TooEarly() {
        Edge.t(5, "FAULT: the place (from 0) of the first byte with which no TEXT goes on; the length, if it ends too early.");
        String whole = "![(1+a)*2<7|m%(3)=l]&!!5>4;[[a=0]]";
        for (int n = 0; n < whole.length(); n++) {
            boolean stands = whole.charAt(n) == ';' || whole.charAt(n) == '&';
            fault(whole.substring(0, n), stands ? -1 : n);
        }
        fault(whole, -1);
        for (int n = 0; n < whole.length(); n++) {
            PlayerMoves x = Worlds.fresh();
            Edge.is("one that stays behind on THE TAPE", Due.rule(x, 0, 0, whole + ";?"), -100 - whole.length() - 1);
            boolean stands = whole.charAt(n) == ';' || whole.charAt(n) == '&';
            Edge.is("what came ahead on THE TAPE does not go on: " + whole.substring(0, n), Due.rule(x, 0, 0, whole.substring(0, n)), stands ? 0 : -100 - n);
        }
        String[] ends = {"[a=a+1", "(a+1", "a=(1+1", "!a+1", "a=a;a+1", "[a=a&a+1", "a=1+1;", "a=1+1&", "a=1+1|", "a=1+1+", "a=1+1*", "a=1+1=", "a=1+1<", "a=1+1!"};
        for (String end : ends) {
            StringBuilder text = new StringBuilder(end);
            while (text.length() < 160) {
                text.insert(end.indexOf('1'), text.length() == 159 ? "1" : "1*");
            }
            char last = end.charAt(end.length() - 1);
            fault(text.toString(), last == '=' || last == '<' || last == '!' ? 159 : 160);
        }
    }

    private static void t5GoesOn() {
        Edge.t(5, "FAULT: the place (from 0) of the first byte with which no TEXT goes on");
        fault("a=a b", 3);
        fault("a=a;;", 4);
        fault(";a=a", 0);
        fault("a=a]", 3);
        fault("a=a)", 3);
        fault("(a=a)", 2);
        fault("[a=a;a=a]", 4);
        fault("a=a=a", 3);
        fault("a==a", 2);
        fault("a<=a", 2);
        fault("-1=a", 0);
        fault("a=-1", 2);
        fault("a=+1", 2);
        fault("a=!a", 2);
        fault("a=[a]", 2);
        fault("a&a=a", 1);
        fault("a=a&a;", 5);
        fault("[a]=a", 2);
        fault("[a=a]=a", 5);
        fault("()=a", 1);
        fault("[]", 1);
        fault("!;", 1);
        fault("!)", 1);
        fault("aa=a", 1);
        fault("a(a)=a", 1);
        fault("a=a!a=a", 3);
        fault("a=a[a=a]", 3);
        fault("a=a\n", 3);
        fault("\ta=a", 0);
        fault("A=a", 0);
        fault("a=e", 2);
        fault("a=a" + (char) 0, 3);
        fault("a=a;" + (char) 0, 4);
        fault("?a=a", 0);
        fault("12345678901=1", 7);
        fault("??", 0);
    }

    private static void t5Open() {
        Edge.t(5, "At most 8 of ( [ ! are open within one another.");
        String ends = "a=a";
        for (int nots = 0; nots <= 9; nots++) {
            for (int brackets = 0; brackets + nots <= 9; brackets++) {
                int parens = 9 - nots - brackets;
                String opened = "!".repeat(nots) + "[".repeat(brackets);
                String closed = "]".repeat(brackets);
                fault(opened + "(".repeat(parens) + "a" + ")".repeat(parens) + "=a" + closed, 8);
                if (parens > 0) {
                    fault(opened + "(".repeat(parens - 1) + "a" + ")".repeat(parens - 1) + "=a" + closed, -1);
                    fault(opened + "a=" + "(".repeat(parens) + "a" + ")".repeat(parens) + closed, 8 + 2);
                    fault(opened + "a=" + "(".repeat(parens - 1) + "a" + ")".repeat(parens - 1) + closed, -1);
                }
            }
        }
        String eight = "[".repeat(8) + ends + "]".repeat(8);
        fault(eight + "&" + eight + "|" + eight + ";" + eight, -1);
        String nots = "!".repeat(8) + ends;
        fault(nots + "&" + nots + "|" + nots + ";" + nots, -1);
        fault(nots + "&!" + nots, nots.length() + 9);
        String parens = "(".repeat(8) + "a" + ")".repeat(8);
        fault(parens + "+" + parens + "*" + parens + "=" + parens, -1);
        fault(parens + "+(" + parens + ")=a", parens.length() + 9);
        fault("[!" + "!".repeat(6) + ends + "]&" + nots, -1);
        fault("[" + nots + "]", 8);
        fault("[a=a&" + nots + "]", 12);
        fault("[a=a]&" + nots, -1);
        fault("(a)=a&" + nots, -1);
        fault("!a=a&" + nots, -1);
        says("[".repeat(8) + "1=1" + "]".repeat(8) + ";" + "[".repeat(8) + "1=2" + "]".repeat(8), 1);
        says("!".repeat(8) + "1=1;" + "!".repeat(7) + "1=1", 1);
        says("(".repeat(8) + "2" + ")".repeat(8) + "=2;2=" + "(".repeat(8) + "3" + ")".repeat(8), 1);
        says("[![![![!1=1]]]];![![!!((2))=3]]", 1);
    }

    private static void t5Longest() {
        Edge.t(5, "THE TAPE (at most 160 bytes)");
        StringBuilder lines = new StringBuilder("a=a");
        while (lines.length() < 159) {
            lines.append(";a=a");
        }
        fault(lines.toString(), -1);
        fault(lines + ";", 160);
        fault(lines + "?", 159);
        fault(lines.substring(0, 155) + "?", 155);
        StringBuilder one = new StringBuilder("1");
        while (one.length() < 156) {
            one.append("+1");
        }
        fault(one.substring(0, 157) + "=79", -1);
        PlayerMoves x = Worlds.fresh();
        x.club(5, 3, 77);
        Edge.is("a sum of 160 bytes", Due.rule(x, 31, 0, one.substring(0, 157) + "=79"), 0);
        Edge.is("it holds", x.holds(1, 0, -1), NOT);
    }

    private static void t5Ints() {
        Edge.t(5, "Ints that wrap; / and % toward 0, by 0 they give 0.");
        String max = "(32768*65535+32767)";
        String min = "(32768*65536)";
        says(max + "+1=" + min, NOT);
        says(min + "-1=" + max, NOT);
        says(max + "*2=0-2", NOT);
        says(min + "*2=0", NOT);
        says(min + "/(0-1)=" + min, NOT);
        says(min + "%(0-1)=0", NOT);
        says(min + "<" + max, NOT);
        says(max + ">" + min, NOT);
        says("7/2=3&7/(0-2)=0-3&(0-7)/2=0-3&(0-7)/(0-2)=3", NOT);
        says("7%2=1&7%(0-2)=1&(0-7)%2=0-1&(0-7)%(0-2)=0-1", NOT);
        says("7/0=0&7%0=0&0/0=0&0%0=0&(0-7)/0=0&(0-7)%0=0", NOT);
        says("7/0+5=5&7%0*5+4=4&7/(3-3)*2=0&9/0/0=0&9%0%0=0", NOT);
        says("7/a=0&7%a=0", NOT);
        says("9999999*9999999=256*1000000+447233", NOT);
        says("2+3*4=14&(2+3)*4=20&20-5-5=10&100/5/5=4&2*7/3=4&7/3*2=4&17%10%4=3", NOT);
    }

    private static void t5Names() {
        Edge.t(5, "NAMES: a AGE, k KIND (of a PLAYER; else 0), h how many HOME GROWN ones, n how many PLAYERS the CLUB HOLDS, y how many of them are YOUTHS, w WAGES"
            + " of all whose OWNER it is, c CAP of this YEAR, t THREE YEARS' CAPS, i THREE YEARS' INCOME, l LEAGUE, d YEAR, m COINS.");
        PlayerMoves x = Worlds.busy();
        x.rule(30, 0);
        String club = "h=1;n=2;y=1;w=100;c=100;t=100;i=5000;l=0;d=0;m=" + x.ofBody(0, 2);
        Due.rule(x, 0, 0, "a=20;k=2;" + club);
        Due.rule(x, 1, 0, "a=0;k=0;" + club);
        Due.rule(x, 2, 0, "a=0;k=0;" + club);
        Edge.is("of USE 0", x.holds(0, 0, 4), NOT);
        Edge.is("of USE 0 and a KEEPER", x.holds(0, 0, 5), 0);
        Edge.is("of USE 0 and one of AGE 16", x.holds(0, 0, 7), 0);
        Edge.t(5, "a, k are 0 but for USE 0.");
        Edge.is("of USE 1", x.holds(1, 0, -1), NOT);
        Edge.is("of USE 2", x.holds(2, 0, -1), NOT);
        PlayerMoves y = Worlds.busy();
        y.rule(30, 0);
        Due.rule(y, 11, 0, "a=0;k=0;a+k=0");
        Edge.is("by WHY 6", y.why(6, 1, 0), 0);
        Due.rule(y, 10, 0, "[k=2&a=20|k=3&a=23|k=4&a=13]&!k=0");
        for (int who = 4; who <= 6; who++) {
            Edge.is("KIND and AGE of " + who, y.holds(0, 1, who), NOT);
        }
        Edge.is("KIND and AGE of 7", y.holds(0, 1, 7), 0);
    }

    private static void t5Lines() {
        Edge.t(5, "It holds if all LINES do; else by the first that does not.");
        says("1=1", NOT);
        says("1=2", 0);
        says("1=1;1=1;1=1", NOT);
        says("1=1;1=1;1=2", 2);
        says("1=1;1=2;1=2", 1);
        says("1=2;1=1;1=1", 0);
        says("1=2|1=1;1=2&1=1", 1);
        says("1=2&1=1|1=1", NOT);
        says("1=1|1=1&1=2", NOT);
        says("[1=1|1=1]&1=2", 0);
        says("!1=2&1=2", 0);
        says("![1=2&1=2]", NOT);
        says("!1=1|1=1", NOT);
        says("!!1=1&!1=2", NOT);
        says("1<1", 0);
        says("1>1", 0);
        says("1<2&2>1&!2<1&!1>2&!1=2", NOT);
    }

    private static void t5CountsAmongThem() {
        Edge.t(5, "By WHY 6 he counts among them (n, h, y), too (once; all else as it is).");
        PlayerMoves x = Worlds.busy();
        x.rule(30, 0);
        String else1 = ";w=240;c=274;t=274;l=1;d=0;m=" + x.ofBody(1, 2);
        Due.rule(x, 11, 0, "n=2;h=1;y=1" + else1);
        Edge.is("a YOUTH who comes", x.why(6, 1, 0), 0);
        Edge.is("a YOUTH who comes on LOAN", x.why(6, 1, 1), 0);
        Edge.is("without him", x.holds(1, 1, -1), 0);
        Due.rule(x, 1, 0, "n=2&y=1&h=1");
        Edge.is("one who is lent to it counts once", x.why(5, 0, 0), 0);
        Edge.is("as it holds him already", x.holds(1, 0, -1), NOT);
        Due.rule(x, 1, 0, "n=3&y=1&h=1");
        Edge.is("a PLAYER who comes", x.why(4, 0, 0), 0);
        Due.rule(x, 0, 0, "n=2&y=1&h=1");
        Edge.is("by RULE 0 he does not count", x.why(4, 0, 0), 0);
        Due.rule(x, 1, 0, "n<3");
        Edge.is("one too many", x.why(4, 0, 0), 6);
        Edge.is("one too many of a LOAN", x.lend(4, 0), -26);
        Edge.is("one too many", x.sell(4, 0), -26);
    }
}
