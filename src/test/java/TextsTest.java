import java.util.Random;

/** Promises 28 and 30 by drawn texts: FAULTS as a reader with a stack of its own finds them, values as the drawn trees have them. */
public final class TextsTest {
    private static final String SIGNS = "akm019!!(([[)))]]]<>=<>=+-*/%&|;";

    public static void main(String[] args) {
        Random random = new Random(77);
        for (int i = 0; i < 40000; i++) {
            String text = i % 2 == 0 ? drawnByStates(random) : mutated(random, texts(random));
            if (text.length() <= 160) {
                int fault = Texts.fault(text);
                Due.is("FAULT of " + text, Due.rule(new PlayerMoves(), 0, 0, text), fault < 0 ? 0 : -100 - fault);
            }
        }
        for (int i = 0; i < 5000; i++) {
            holds(random);
        }
        Due.end();
    }

    /** A text that mostly goes on as it may, so that deep places are met. */
    private static String drawnByStates(Random random) {
        StringBuilder text = new StringBuilder();
        int wrong = random.nextInt(8) == 0 ? random.nextInt(40) : -1;
        for (int i = 0; i < 5 + random.nextInt(150); i++) {
            int before = text.length();
            for (int tries = 0; tries < 200; tries++) {
                text.setLength(before);
                text.append(SIGNS.charAt(random.nextInt(SIGNS.length())));
                int fault = Texts.fault(text.toString());
                if (i == wrong || fault < 0 || fault == text.length()) {
                    break;
                }
            }
        }
        return text.toString();
    }

    private static String mutated(Random random, String text) {
        StringBuilder changed = new StringBuilder(text);
        int at = random.nextInt(text.length());
        int how = random.nextInt(4);
        if (how == 0) {
            changed.setCharAt(at, SIGNS.charAt(random.nextInt(SIGNS.length())));
        } else if (how == 1) {
            changed.setLength(at);
        } else if (how == 2) {
            changed.insert(at, SIGNS.charAt(random.nextInt(SIGNS.length())));
        }
        return changed.toString();
    }

    // ---- drawn trees with their values

    private static final int LEAGUE = 3, COINS = 4321;
    private static int value;
    private static boolean is;

    private static String texts(Random random) {
        return either(random, 0) + (random.nextBoolean() ? "" : ";" + either(random, 0));
    }

    private static void holds(Random random) {
        StringBuilder text = new StringBuilder();
        int broken = -2;
        for (int line = 0; line < 3; line++) {
            String next = either(random, 0);
            if (text.length() + next.length() + 1 > 160) {
                break;
            }
            text.append(line == 0 ? "" : ";").append(next);
            broken = broken == -2 && !is ? line : broken;
        }
        if (text.length() > 0) {
            PlayerMoves x = new PlayerMoves();
            x.club(5, LEAGUE, COINS);
            Due.is("RULE " + text, Due.rule(x, 31, 0, text.toString()), 0);
            Due.is(text.toString(), x.holds(1, 0, -1), broken);
        }
    }

    private static String either(Random random, int open) {
        String text = both(random, open);
        if (random.nextInt(3) == 0) {
            boolean first = is;
            text += "|" + both(random, open);
            is |= first;
        }
        return text;
    }

    private static String both(Random random, int open) {
        String text = base(random, open);
        if (random.nextInt(3) == 0) {
            boolean first = is;
            text += "&" + base(random, open);
            is &= first;
        }
        return text;
    }

    private static String base(Random random, int open) {
        int how = open >= 8 ? 9 : random.nextInt(6);
        if (how == 0) {
            String text = "!" + base(random, open + 1);
            is = !is;
            return text;
        }
        if (how == 1) {
            return "[" + either(random, open + 1) + "]";
        }
        String left = sum(random, open);
        int first = value;
        String right = sum(random, open);
        int which = random.nextInt(3);
        is = which == 0 ? first < value : which == 1 ? first == value : first > value;
        return left + "<=>".charAt(which) + right;
    }

    private static String sum(Random random, int open) {
        String text = product(random, open);
        for (int i = random.nextInt(3); i > 0; i--) {
            int first = value;
            boolean adds = random.nextBoolean();
            text += (adds ? "+" : "-") + product(random, open);
            value = adds ? first + value : first - value;
        }
        return text;
    }

    private static String product(Random random, int open) {
        String text = operand(random, open);
        for (int i = random.nextInt(3); i > 0; i--) {
            int first = value;
            int how = random.nextInt(3);
            text += "*/%".charAt(how) + operand(random, open);
            value = how == 0 ? first * value : value == 0 ? 0 : how == 1 ? first / value : first % value;
        }
        return text;
    }

    private static String operand(Random random, int open) {
        int how = random.nextInt(6);
        if (how == 0 && open < 8) {
            return "(" + sum(random, open + 1) + ")";
        }
        if (how == 1) {
            value = LEAGUE;
            return "l";
        }
        if (how == 2) {
            value = COINS;
            return "m";
        }
        if (how == 3) {
            int at = random.nextInt(10);
            value = 0;
            return "akhnywctid".substring(at, at + 1);
        }
        value = random.nextInt(2) == 0 ? random.nextInt(10) : random.nextInt(10000000);
        return Integer.toString(value);
    }
}
