import java.lang.reflect.InvocationTargetException;
import java.lang.reflect.Method;
import java.lang.reflect.Modifier;
import java.util.HashMap;
import java.util.Map;
import java.util.TreeMap;

/** Drawn runs of 512 calls, each call made of the class and of a Model, which has DOC.md's words once more: all answers are the same. */
public final class ModelTest {
    private static final int CALLS = 512;
    private static final Map<String, Method> OF_CLASS = methods(PlayerMoves.class);
    private static final Map<String, Method> OF_MODEL = methods(Model.class);
    /** How often the due answers of each name were 0 or more, and less. */
    private static final Map<String, int[]> MET = new TreeMap<>();

    public static void main(String[] args) throws ReflectiveOperationException {
        int first = args.length > 0 ? Integer.parseInt(args[0]) : 1;
        int last = args.length > 1 ? Integer.parseInt(args[1]) : 150;
        for (int seed = first; seed <= last; seed++) {
            run(seed);
        }
        for (String name : OF_CLASS.keySet()) {
            int[] met = MET.getOrDefault(name, new int[2]);
            Due.is(name + " answered 0 or more", met[0] > 0 ? 1 : 0, 1);
            Due.is(name + " answered less than 0", met[1] > 0 ? 1 : 0, 1);
        }
        Due.end();
    }

    private static void run(int seed) throws ReflectiveOperationException {
        PlayerMoves x = new PlayerMoves();
        Model model = new Model();
        Draws draws = new Draws(seed, model);
        for (int i = 0; i < CALLS; i++) {
            Draws.Call call = draws.next();
            long got = make(OF_CLASS, x, call);
            long due = make(OF_MODEL, model, call);
            Due.is("seed " + seed + ", call " + i + ": " + call, got, due);
            MET.computeIfAbsent(call.name(), name -> new int[2])[due < 0 ? 1 : 0]++;
            if (got != due) {
                return;
            }
        }
    }

    private static Map<String, Method> methods(Class<?> of) {
        Map<String, Method> found = new HashMap<>();
        for (Method method : of.getDeclaredMethods()) {
            boolean isFace = of == PlayerMoves.class || OF_CLASS.containsKey(method.getName());
            if (isFace && !Modifier.isPrivate(method.getModifiers())) {
                found.put(method.getName(), method);
            }
        }
        return found;
    }

    private static long make(Map<String, Method> of, Object on, Draws.Call call) throws ReflectiveOperationException {
        Method method = of.get(call.name());
        Object[] with = new Object[call.with().length];
        for (int i = 0; i < with.length; i++) {
            long v = call.with()[i];
            with[i] = method.getParameterTypes()[i] == long.class ? (Object) v : (Object) (int) v;
        }
        try {
            return ((Number) method.invoke(on, with)).longValue();
        } catch (InvocationTargetException thrown) {
            throw new IllegalStateException(call + " threw", thrown.getCause());
        }
    }
}
