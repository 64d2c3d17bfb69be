import java.io.IOException;
import java.lang.reflect.Constructor;
import java.lang.reflect.Field;
import java.lang.reflect.Member;
import java.lang.reflect.Method;
import java.lang.reflect.Modifier;
import java.nio.charset.StandardCharsets;
import java.nio.file.Files;
import java.nio.file.Path;
import java.util.Arrays;
import java.util.Set;
import java.util.TreeSet;

/** The public face, and those rules of LANGUAGE.md that can be read from the class and its source. */
public final class FaceTest {
    private static final String FACE = "days(int) minute(int) window(int,int,int) open(int,int) papers(int,int) body(int) club(int,int,int)"
        + " player(int,int,int,int) income(int,int,int) ofBody(int,int) past(int,int,int,int) spans(int,int,int,int) sign(int,int,int,int)"
        + " at(int,int,int) taught(int,int) term(int,int) why(int,int,int) sell(int,int) lend(int,int) option(int) ofMove(int,int)"
        + " share(int,int) play(int,int) undo(int) squad(int,int) feed(int,int) rule(int,int) inForce(int,int,int) holds(int,int,int)"
        + " tryCap(int,int) deal(int,int,int,int) chain() wish(int) rings() gets(int) candidate(int,int) buys(int,int,int) claim(int,int)"
        + " part(int) got(int) act(int,int,int) trace(int) keep(int,int) row(int,int,int) put(int,int,long) element(int,int)"
        + " shift(int,int,int,int,int) taken(int,int) count(int)";
    private static final String FORBIDDEN = "throw try catch finally synchronized assert import package yield instanceof double float Object"
        + " equals hashCode toString System.out Exact";

    public static void main(String[] args) throws IOException {
        constants();
        methods();
        members();
        source();
        Due.end();
    }

    private static void constants() {
        Due.is("BAD", PlayerMoves.BAD, -1);
        Due.is("NOT", PlayerMoves.NOT, -2);
        Due.is("FULL", PlayerMoves.FULL, -3);
        Due.is("VOID", PlayerMoves.VOID, -2000000000);
        Set<String> names = new TreeSet<>();
        for (Field f : PlayerMoves.class.getDeclaredFields()) {
            if (!Modifier.isPrivate(f.getModifiers())) {
                names.add(f.getName() + " " + f.getType() + " " + Modifier.toString(f.getModifiers()));
            }
        }
        String due = "[BAD int public static final, FULL int public static final, NOT int public static final, VOID int public static final]";
        same("constants", names.toString(), due);
    }

    private static void methods() {
        Set<String> face = new TreeSet<>(Arrays.asList(FACE.split(" ")));
        Set<String> found = new TreeSet<>();
        Set<String> named = new TreeSet<>();
        for (Method m : PlayerMoves.class.getDeclaredMethods()) {
            if (Modifier.isPublic(m.getModifiers())) {
                found.add(m.getName() + Arrays.toString(m.getParameterTypes()).replace("[", "(").replace("]", ")").replace(" ", ""));
                named.add(m.getName());
                same("type of " + m.getName(), m.getReturnType().getName(), m.getName().equals("element") ? "long" : "int");
                same("modifiers of " + m.getName(), Modifier.toString(m.getModifiers()), "public");
            }
        }
        same("methods", found.toString(), face.toString());
        for (Class<?> inside : PlayerMoves.class.getDeclaredClasses()) {
            for (Method m : inside.getDeclaredMethods()) {
                Due.is("a method inside named " + m.getName(), named.contains(m.getName()) ? 1 : 0, 0);
            }
        }
        for (Method m : PlayerMoves.class.getDeclaredMethods()) {
            Due.is("a private method named " + m.getName(), !Modifier.isPublic(m.getModifiers()) && named.contains(m.getName()) ? 1 : 0, 0);
        }
    }

    private static void members() {
        Constructor<?>[] made = PlayerMoves.class.getDeclaredConstructors();
        Due.is("constructors", made.length, 1);
        same("the constructor", made[0].toString(), "public PlayerMoves()");
        same("the class", Modifier.toString(PlayerMoves.class.getModifiers()), "public final");
        Due.is("classes inside", PlayerMoves.class.getDeclaredClasses().length <= 12 ? 1 : 0, 1);
        for (Method m : PlayerMoves.class.getDeclaredMethods()) {
            isHidden(m);
        }
        for (Class<?> inside : PlayerMoves.class.getDeclaredClasses()) {
            Due.is(inside + " is static", Modifier.isStatic(inside.getModifiers()) ? 1 : 0, 1);
            Due.is(inside + " is hidden", Modifier.isPublic(inside.getModifiers()) ? 1 : 0, 0);
            fields(inside);
        }
        fields(PlayerMoves.class);
    }

    private static void isHidden(Member m) {
        int how = m.getModifiers();
        Due.is(m.getName() + " is public or private", Modifier.isPublic(how) || Modifier.isPrivate(how) || m.isSynthetic() ? 1 : 0, 1);
    }

    private static void fields(Class<?> of) {
        int own = 0;
        for (Field f : of.getDeclaredFields()) {
            int how = f.getModifiers();
            Due.is(f + " is final if static", !Modifier.isStatic(how) || Modifier.isFinal(how) || f.isSynthetic() ? 1 : 0, 1);
            own += Modifier.isStatic(how) ? 0 : 1;
        }
        Due.is("fields of " + of + " are some twenty: " + own, own <= 20 ? 1 : 0, 1);
    }

    private static void source() throws IOException {
        Path main = Path.of("src/main/java/PlayerMoves.java");
        String text = new String(Files.readAllBytes(main), StandardCharsets.ISO_8859_1);
        for (int i = 0; i < text.length(); i++) {
            if (text.charAt(i) > 126) {
                Due.is("the sign at " + i, text.charAt(i), 0);
            }
        }
        String code = text.replaceAll("(?s)/\\*.*?\\*/", "").replaceAll("//[^\n]*", "");
        for (String word : FORBIDDEN.split(" ")) {
            Due.is("the word " + word, code.matches("(?s).*\\b" + word.replace(".", "\\.") + "\\b.*") ? 1 : 0, 0);
        }
        Due.is("lambdas, method references", code.contains("->") || code.contains("::") ? 1 : 0, 0);
        lengths(code);
    }

    /** No method of more than 60 lines. */
    private static void lengths(String code) {
        String[] lines = code.split("\n");
        int began = 0;
        for (int i = 0; i < lines.length; i++) {
            if (lines[i].matches(" {4,8}[a-zA-Z].*\\) \\{")) {
                began = i;
            }
            if (lines[i].matches(" {4}( {4})?\\}") && lines[began].startsWith(lines[i].replace("}", "") + "p")) {
                Due.is("lines up to " + (i + 1), i - began < 60 ? 1 : 0, 1);
            }
        }
    }

    private static void same(String what, String found, String due) {
        Due.is(what + ": " + found + ", due is " + due, found.equals(due) ? 1 : 0, 1);
    }
}
