import java.io.IOException;
import java.lang.reflect.Array;
import java.lang.reflect.Field;
import java.lang.reflect.Modifier;
import java.util.ArrayList;
import java.util.IdentityHashMap;
import java.util.List;
import java.util.Map;
import java.util.Set;
import java.util.TreeMap;
import java.util.TreeSet;

/** The rules of the language that can be seen in the compiled class: calls, what is made, what is thrown. */
public final class LanguageTest {
    private static final int DEEPEST = 8;
    private static final String OWN = "ShingleBank";
    private static final Set<String> REFUSALS = Set.of("java/lang/IndexOutOfBoundsException", "java/util/NoSuchElementException",
        "java/lang/IllegalArgumentException", "java/lang/IllegalStateException");
    private static final Set<String> LIBRARY = Set.of("java/lang/Object.<init>", "java/util/Arrays.fill", "java/lang/System.arraycopy",
        "java/lang/Math.min", "java/lang/Math.max", "java/lang/Math.abs", "java/lang/Integer.bitCount", "java/lang/String.length", "java/lang/String.charAt");

    private static final Map<String, ClassFile.Body> BODIES = new TreeMap<>();
    private static final Map<String, Set<String>> REACHED = new TreeMap<>();
    private static int wrongs = 0;

    private LanguageTest() {
    }

    private static void need(boolean right, String what) {
        if (!right) {
            wrongs++;
            System.out.println(what);
        }
    }

    public static void main(String[] args) throws IOException, IllegalAccessException {
        List<Class<?>> all = new ArrayList<>(List.of(ShingleBank.class.getDeclaredClasses()));
        all.add(ShingleBank.class);
        for (Class<?> one : all) {
            for (ClassFile.Body body : ClassFile.of(one).bodies) {
                // two of one name would hide one another
                need(BODIES.put(body.name, body) == null, "a second method of this name: " + body.name);
            }
        }
        need(BODIES.size() > 100, "methods that were found: " + BODIES.size());
        library();
        throwsAndCatches();
        made();
        recursion();
        depth();
        room();
        System.out.println(BODIES.size() + " methods, " + wrongs + " wrong");
        if (wrongs > 0) {
            System.exit(1);
        }
    }

    private static boolean isOwn(String name) {
        return name.startsWith(OWN);
    }

    private static boolean isConstructor(String name) {
        return name.endsWith("init>");
    }

    /** Rule 4; a constructor of an exception is looked at with what is made. */
    private static void library() {
        for (ClassFile.Body body : BODIES.values()) {
            for (String called : body.calls) {
                boolean known = isOwn(called) ? BODIES.containsKey(called) : LIBRARY.contains(called);
                boolean refusal = isConstructor(called) && REFUSALS.contains(called.substring(0, called.indexOf('.')));
                need(known || refusal, body.name + " calls " + called);
            }
        }
    }

    /** Rule 6, and that nothing is answered by catching. */
    private static void throwsAndCatches() {
        for (ClassFile.Body body : BODIES.values()) {
            need(!body.catches, body.name + " catches");
            need(!body.strange, body.name + " holds a lambda, a joined text or a lock");
            need(!body.throwsAway || body.name.startsWith(OWN + ".need"), body.name + " throws");
        }
    }

    /** README: all rows are made in the constructor; no call makes an object but its refusal. */
    private static void made() {
        for (ClassFile.Body body : BODIES.values()) {
            for (String what : body.made) {
                boolean refusal = REFUSALS.contains(what);
                need(isConstructor(body.name) ? !refusal : refusal && body.throwsAway, body.name + " makes " + what);
            }
        }
    }

    private static Set<String> reachedFrom(String name) {
        Set<String> known = REACHED.get(name);
        if (known != null) {
            return known;
        }
        Set<String> reached = new TreeSet<>();
        List<String> open = new ArrayList<>(List.of(name));
        while (!open.isEmpty()) {
            for (String called : BODIES.get(open.remove(open.size() - 1)).calls) {
                if (isOwn(called) && BODIES.containsKey(called) && reached.add(called)) {
                    open.add(called);
                }
            }
        }
        REACHED.put(name, reached);
        return reached;
    }

    /** Rule 8: only what reads a LAW calls itself, and its depth is held to six open ones. */
    private static void recursion() {
        for (String name : BODIES.keySet()) {
            need(!reachedFrom(name).contains(name) || name.startsWith(OWN + "$LawReader.read"), name + " calls itself");
        }
    }

    /** Rule 11: as many methods as stand open at once, the public one too; those that call one another count as one. */
    private static void depth() {
        for (String name : BODIES.keySet()) {
            String path = deepest(name);
            need(path.split(" ").length <= DEEPEST, "more than " + DEEPEST + " deep: " + path);
        }
    }

    private static String deepest(String name) {
        Set<String> round = new TreeSet<>();
        round.add(name);
        for (String other : reachedFrom(name)) {
            if (reachedFrom(other).contains(name)) {
                round.add(other);
            }
        }
        String best = "";
        for (String one : round) {
            for (String called : BODIES.get(one).calls) {
                if (BODIES.containsKey(called) && !round.contains(called)) {
                    String path = deepest(called);
                    best = best.isEmpty() || path.split(" ").length > best.split(" ").length ? path : best;
                }
            }
        }
        return best.isEmpty() ? name : name + " " + best;
    }

    /** All calls of a run live in one room: an object is far smaller than that. */
    private static void room() throws IllegalAccessException {
        Map<Object, Boolean> seen = new IdentityHashMap<>();
        int elements = elementsOf(new ShingleBank(), seen);
        need(seen.size() <= 200, "objects and arrays of one: " + seen.size());
        need(elements <= 10000, "fields and elements of one: " + elements);
    }

    private static int elementsOf(Object one, Map<Object, Boolean> seen) throws IllegalAccessException {
        if (one == null || seen.put(one, true) != null) {
            return 0;
        }
        int count = 0;
        if (one.getClass().isArray()) {
            count = Array.getLength(one);
            for (int i = 0; i < Array.getLength(one) && one instanceof Object[]; i++) {
                count += elementsOf(Array.get(one, i), seen);
            }
            return count;
        }
        for (Field field : one.getClass().getDeclaredFields()) {
            if (!Modifier.isStatic(field.getModifiers())) {
                count++;
                field.setAccessible(true);
                count += field.getType().isPrimitive() ? 0 : elementsOf(field.get(one), seen);
            }
        }
        return count;
    }
}
