import java.io.IOException;
import java.lang.reflect.Array;
import java.lang.reflect.Field;
import java.lang.reflect.Modifier;
import java.util.ArrayList;
import java.util.Collections;
import java.util.HashMap;
import java.util.HashSet;
import java.util.IdentityHashMap;
import java.util.List;
import java.util.Map;
import java.util.Set;

/** Those rules of LANGUAGE.md that can be seen in the class files, and the room that an object takes. */
public final class ClassFileTest {
    private static final Desk DESK = new Desk("ClassFileTest");
    /** Rule 4, as far as the program uses it. */
    private static final Set<String> LIBRARY = Set.of("java.lang.Object.<init>", "java.lang.String.length",
        "java.lang.String.charAt", "java.lang.String.indexOf", "java.lang.Math.max", "java.lang.Math.min",
        "java.lang.System.arraycopy", "java.util.Arrays.fill");
    private static final int DEEPEST = 8;
    /** Of one run: each call may be the making of an object. */
    private static final int CALLS = 512;
    private static final int ROOM_OBJECTS = 600_000;
    private static final int ROOM_ELEMENTS = 7_300_000;

    private final Map<ClassFile.Name, ClassFile.Body> bodies = new HashMap<>();

    public static void main(String[] args) throws Exception {
        ClassFileTest t = new ClassFileTest();
        t.read(MondayMaps.class);
        for (Class<?> c : MondayMaps.class.getDeclaredClasses()) {
            t.read(c);
        }
        DESK.holds("methods are found, which", t.bodies.size() > 100);
        t.eachMethod();
        t.depth();
        room();
        DESK.close();
    }

    private void read(Class<?> c) throws IOException {
        for (ClassFile.Body b : new ClassFile(c).bodies) {
            DESK.holds(b.name + " has a name of its own, which", bodies.put(b.name, b) == null
                || b.name.name().equals("<init>"));
        }
    }

    private void eachMethod() {
        for (ClassFile.Body b : bodies.values()) {
            DESK.due(b.name + " throws", b.thrown, 0);
            DESK.due(b.name + " catches", b.caught, 0);
            DESK.due(b.name + " has lambdas or joins texts by +", b.lambdas, 0);
            if (!b.name.name().equals("<init>")) {
                DESK.due(b.name + " makes objects", b.made, 0);
            }
            for (ClassFile.Name n : b.calls) {
                String whole = n.owner() + "." + n.name();
                DESK.holds(b.name + " calls " + whole + ", which", bodies.containsKey(n) || LIBRARY.contains(whole));
            }
        }
    }

    /** Rule 11; a method that stands open already is recursion. The library's own count as one more. */
    private void depth() {
        for (ClassFile.Body b : bodies.values()) {
            if (b.name.owner().equals("MondayMaps")) {
                List<ClassFile.Name> path = deepest(b.name, new HashSet<>());
                DESK.holds("rule 11, " + path.size() + " deep: " + path + ", which", path.size() <= DEEPEST);
            }
        }
    }

    private List<ClassFile.Name> deepest(ClassFile.Name from, Set<ClassFile.Name> open) {
        List<ClassFile.Name> best = List.of();
        open.add(from);
        ClassFile.Body body = bodies.get(from);
        for (ClassFile.Name n : body == null ? List.<ClassFile.Name>of() : body.calls) {
            if (!open.contains(n)) {
                List<ClassFile.Name> path = deepest(n, open);
                best = path.size() > best.size() ? path : best;
            }
        }
        open.remove(from);
        List<ClassFile.Name> whole = new ArrayList<>(List.of(from));
        whole.addAll(best);
        return whole;
    }

    /** Since calls make nothing, what a run takes is what its objects were made with. */
    private static void room() throws IllegalAccessException {
        Set<Object> objects = Collections.newSetFromMap(new IdentityHashMap<>());
        long elements = elementsOf(new MondayMaps(), objects);
        DESK.holds(objects.size() + " objects, which", (long) objects.size() * CALLS <= ROOM_OBJECTS);
        DESK.holds(elements + " fields and elements, which", elements * CALLS <= ROOM_ELEMENTS);
    }

    private static long elementsOf(Object o, Set<Object> met) throws IllegalAccessException {
        if (o == null || !met.add(o)) {
            return 0;
        }
        if (o.getClass().isArray()) {
            long sum = Array.getLength(o);
            for (int i = 0; o instanceof Object[] row && i < row.length; i++) {
                sum += elementsOf(row[i], met);
            }
            return sum;
        }
        long sum = 0;
        for (Field f : o.getClass().getDeclaredFields()) {
            if (!Modifier.isStatic(f.getModifiers())) {
                f.setAccessible(true);
                sum += 1 + (f.getType().isPrimitive() ? 0 : elementsOf(f.get(o), met));
            }
        }
        return sum;
    }
}
