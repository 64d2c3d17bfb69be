import java.io.IOException;
import java.nio.charset.StandardCharsets;
import java.nio.file.Files;
import java.nio.file.Path;
import java.util.BitSet;
import java.util.LinkedHashMap;
import java.util.List;
import java.util.Map;
import java.util.function.Supplier;
import java.util.function.ToLongFunction;
import java.util.regex.Matcher;
import java.util.regex.Pattern;

/**
 * Tells of which sentence of DOC.md the cases that come next are: P13 is promise 13, T3 section 3 of the Terms.
 * A sentence that does not stand in its section fails, and so does, in the end, an edge that no sentence told names.
 */
final class Edge {
    private static final Map<String, String> SECTIONS = sections();
    private static final Map<String, BitSet> TOLD = new LinkedHashMap<>();
    /** What names an edge in a promise: each of its refusals, and each range. */
    private static final Pattern IN_PROMISE = Pattern.compile("BAD|NOT|FULL|VOID|-1[1-4]\\b|-20\\b|-100\\b|-?\\d+ \\.\\. -?\\d+|beyond|below|above");
    /** What names an edge in the Terms. */
    private static final Pattern IN_TERMS = Pattern.compile("-?\\d+ \\.\\. -?\\d+|at most|at least|at first|below 0|or more|\\bcut\\b|\\bup\\b|once|or later|"
        + "both counted|by 0|wrap|BAD|NOT|FULL|-1[1-4]\\b|VOID");
    private static String now = "";

    private Edge() {
    }

    /** The next cases are of this sentence of a promise. */
    static void p(int promise, String sentence) {
        tell("P" + promise, sentence);
    }

    /** The next cases are of this sentence of a section of the Terms. */
    static void t(int section, String sentence) {
        tell("T" + section, sentence);
    }

    static void is(String what, long got, long due) {
        Due.is(now + " | " + what, got, due);
    }

    /** A call of a busy object is answered as is due, and changes nothing. */
    static void no(String what, ToLongFunction<PlayerMoves> call, long due) {
        no(what, Worlds::busy, call, due);
    }

    /** A call of an object made so is answered as is due, and changes nothing. */
    static void no(String what, Supplier<PlayerMoves> made, ToLongFunction<PlayerMoves> call, long due) {
        PlayerMoves asked = made.get();
        is(what, call.applyAsLong(asked), due);
        List<String> as = State.of(asked);
        List<String> was = State.of(made.get());
        int i = 0;
        while (i < as.size() && i < was.size() && as.get(i).equals(was.get(i))) {
            i++;
        }
        String change = i == was.size() && i == as.size() ? "nothing" : was.get(Math.min(i, was.size() - 1)) + " is now " + as.get(Math.min(i, as.size() - 1));
        is(what + " changes nothing, but " + change, change.equals("nothing") ? 0 : 1, 0);
    }

    /** Each edge of the document stands in a sentence that was told. */
    static void end() {
        if (SECTIONS.isEmpty()) {
            System.out.println("../shared/DOC.md is not there: the sentences were not looked up");
            return;
        }
        for (Map.Entry<String, String> section : SECTIONS.entrySet()) {
            BitSet told = TOLD.getOrDefault(section.getKey(), new BitSet());
            Due.is(section.getKey() + " has tests", told.isEmpty() ? 0 : 1, 1);
            String text = section.getValue();
            Matcher edge = (section.getKey().charAt(0) == 'P' ? IN_PROMISE : IN_TERMS).matcher(text);
            while (edge.find()) {
                String around = text.substring(Math.max(0, edge.start() - 30), Math.min(text.length(), edge.end() + 30));
                Due.is(section.getKey() + " has a test of \"" + edge.group() + "\" in \"" + around + "\"", told.get(edge.start()) ? 1 : 0, 1);
            }
        }
        Due.is("promises and sections", SECTIONS.size(), 57);
    }

    private static void tell(String section, String sentence) {
        String text = SECTIONS.getOrDefault(section, "");
        now = section + " \"" + sentence + "\"";
        int at = text.indexOf(sentence);
        Due.is(now + " stands in the document", at < 0 && !SECTIONS.isEmpty() ? 0 : 1, 1);
        while (at >= 0) {
            TOLD.computeIfAbsent(section, s -> new BitSet()).set(at, at + sentence.length());
            at = text.indexOf(sentence, at + 1);
        }
    }

    private static Map<String, String> sections() {
        Map<String, String> found = new LinkedHashMap<>();
        String doc = read();
        if (doc.isEmpty()) {
            return found;
        }
        String terms = between(doc, "## Terms", "Ahead of the calls");
        String[] parts = terms.split("======== ");
        for (int i = 1; i < parts.length; i++) {
            found.put("T" + i, plain(parts[i]));
        }
        Matcher head = Pattern.compile("(?s)## Promise (\\d+): [^\\n]*\\n(.*?)(?=\\n## )").matcher(doc);
        while (head.find()) {
            found.put("P" + head.group(1), plain(head.group(2)));
        }
        return found;
    }

    private static String between(String text, String from, String to) {
        int at = text.indexOf(from);
        return text.substring(at, text.indexOf(to, at));
    }

    private static String plain(String text) {
        return text.replace("```text", " ").replace("`", "").replaceAll("\\s+", " ").trim();
    }

    private static String read() {
        try {
            return new String(Files.readAllBytes(Path.of("../shared/DOC.md")), StandardCharsets.UTF_8);
        } catch (IOException missing) {
            return "";
        }
    }
}
