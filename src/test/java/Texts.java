import java.util.ArrayList;
import java.util.List;
import java.util.function.Function;

/** TEXTS without a descent: FAULTS by a stack of what is open, values by cutting a text at its outermost signs. */
final class Texts {
    private static final String NAMES = "akhnywctildm";

    private Texts() {
    }

    /** The FAULT, read sign by sign with a stack of what is open; -1: none. */
    static int fault(String text) {
        StringBuilder open = new StringBuilder();
        char state = 'B';
        boolean related = false;
        int digits = 0;
        for (int i = 0; i < text.length(); i++) {
            char c = text.charAt(i);
            boolean isDigit = c >= '0' && c <= '9';
            char top = topOf(open);
            boolean whole = state == 'E' || (state == 'A' && related && open.indexOf("(", bracketOf(open)) < 0);
            if (state == 'B' && (c == '!' || c == '[') && open.length() < 8) {
                open.append(c);
            } else if ((state == 'B' || state == 'O') && c == '(' && open.length() < 8) {
                open.append(c);
                related = state == 'O' && related;
                state = 'O';
            } else if ((state == 'B' || state == 'O') && (isDigit || NAMES.indexOf(c) >= 0)) {
                related = state == 'O' && related;
                state = 'A';
                digits = isDigit ? 1 : 7;
            } else if (state == 'A' && isDigit && digits < 7) {
                digits++;
            } else if (state == 'A' && "+-*/%".indexOf(c) >= 0) {
                state = 'O';
            } else if (state == 'A' && c == ')' && open.length() > 0 && open.charAt(open.length() - 1) == '(') {
                open.setLength(open.length() - 1);
                digits = 7;
            } else if (state == 'A' && "<>=".indexOf(c) >= 0 && !related && !open.toString().endsWith("(")) {
                related = true;
                state = 'O';
            } else if (whole && (c == '&' || c == '|' || (c == ';' && top == 0) || (c == ']' && top == '['))) {
                dropNots(open);
                if (c == ']') {
                    open.setLength(open.length() - 1);
                }
                state = c == ']' ? 'E' : 'B';
                related = false;
            } else {
                return i;
            }
        }
        boolean whole = state == 'E' || (state == 'A' && related && !open.toString().endsWith("("));
        return whole && topOf(open) == 0 ? -1 : text.length();
    }

    private static int bracketOf(StringBuilder open) {
        return open.lastIndexOf("[") + 1;
    }

    private static char topOf(StringBuilder open) {
        int i = open.length() - 1;
        while (i >= 0 && open.charAt(i) == '!') {
            i--;
        }
        return i < 0 ? 0 : open.charAt(i);
    }

    private static void dropNots(StringBuilder open) {
        while (open.length() > 0 && open.charAt(open.length() - 1) == '!') {
            open.setLength(open.length() - 1);
        }
    }

    /** The first LINE that does not hold; -1: all do. The TEXT has no FAULT. */
    static int broken(String text, Function<Character, Integer> values) {
        List<String> lines = cut(text, ";");
        for (int i = 0; i < lines.size(); i += 2) {
            if (!holds(lines.get(i), values)) {
                return i / 2;
            }
        }
        return -1;
    }

    /** The parts between those of the signs that stand within no bracket, and the signs at the odd places. */
    private static List<String> cut(String text, String signs) {
        List<String> parts = new ArrayList<>();
        int open = 0;
        int from = 0;
        for (int i = 0; i < text.length(); i++) {
            char c = text.charAt(i);
            open += c == '(' || c == '[' ? 1 : c == ')' || c == ']' ? -1 : 0;
            if (open == 0 && signs.indexOf(c) >= 0) {
                parts.add(text.substring(from, i));
                parts.add(text.substring(i, i + 1));
                from = i + 1;
            }
        }
        parts.add(text.substring(from));
        return parts;
    }

    private static boolean holds(String text, Function<Character, Integer> values) {
        List<String> either = cut(text, "|");
        if (either.size() > 1) {
            return either.stream().anyMatch(part -> !part.equals("|") && holds(part, values));
        }
        List<String> both = cut(text, "&");
        if (both.size() > 1) {
            return both.stream().allMatch(part -> part.equals("&") || holds(part, values));
        }
        if (text.startsWith("!")) {
            return !holds(text.substring(1), values);
        }
        if (text.startsWith("[")) {
            return holds(text.substring(1, text.length() - 1), values);
        }
        List<String> sides = cut(text, "<=>");
        int order = Integer.compare(value(sides.get(0), values), value(sides.get(2), values));
        return order == "<=>".indexOf(sides.get(1)) - 1;
    }

    private static int value(String text, Function<Character, Integer> values) {
        List<String> parts = cut(text, "+-");
        if (parts.size() == 1) {
            parts = cut(text, "*/%");
        }
        if (parts.size() == 1) {
            return text.startsWith("(") ? value(text.substring(1, text.length() - 1), values)
                : NAMES.contains(text) ? values.apply(text.charAt(0)) : Integer.parseInt(text);
        }
        long value = value(parts.get(0), values);
        for (int i = 1; i < parts.size(); i += 2) {
            long next = value(parts.get(i + 1), values);
            switch (parts.get(i)) {
                case "+" -> value = (int) (value + next);
                case "-" -> value = (int) (value - next);
                case "*" -> value = (int) (value * next);
                case "/" -> value = next == 0 ? 0 : (int) (value / next);
                default -> value = next == 0 ? 0 : (int) (value % next);
            }
        }
        return (int) value;
    }
}
