import java.lang.management.ManagementFactory;
import java.lang.reflect.Array;
import java.lang.reflect.Constructor;
import java.lang.reflect.Field;
import java.lang.reflect.Method;
import java.lang.reflect.Modifier;
import java.util.ArrayList;
import java.util.Collections;
import java.util.HashSet;
import java.util.IdentityHashMap;
import java.util.List;
import java.util.Set;
import java.util.TreeSet;

/** The face that the document tells, and the room that objects and calls take. */
public final class RulesTest {
    private static final String[] FACE = {
        "house(int, int)", "hut(int, int)", "near(int, int)", "far(int)", "town(int)", "burn(int)", "feed(long, int)",
        "text()", "force(int)", "shape(int, int, int)", "loaf(int)", "shapeTold(int, int)", "within(int, int)",
        "size(int)", "both(int, int, int)", "laid(int, int)", "ravine(int, int, int, int, int)", "steps(int, int)",
        "person(int, int)", "moves(int, int)", "personTold(int, int)", "well(int)", "may(int, int, int)",
        "wells(int, int)", "who(int, int)", "meet(int, int, int)", "shed(int, int)", "bridge(int, int, int)",
        "count(int)", "image()", "back()", "sheet(int, int, int)", "cell(int, int, int)",
        "copy(int, int, int, int, int)", "houses(int, int, int, int)", "taken(int, int)"};

    private static final String[] CONSTANTS = {
        "public static final int NONE", "public static final int BAD", "public static final int STATE",
        "public static final int FULL", "public static final long NO"};

    /** So many objects and arrays, and fields and elements, are there for all calls of one run. */
    private static final int ROOM_OF_OBJECTS = 600000, ROOM_OF_ELEMENTS = 7300000;

    public static void main(String[] args) throws IllegalAccessException {
        constants();
        face();
        names();
        roomOfCalls();
        roomOfAnObject();
        Due.end();
    }

    private static void constants() {
        Due.is("NONE", StepsBeyond.NONE, -1);
        Due.is("BAD", StepsBeyond.BAD, -2);
        Due.is("STATE", StepsBeyond.STATE, -3);
        Due.is("FULL", StepsBeyond.FULL, -4);
        Due.is("NO", StepsBeyond.NO, -4611686018427387904L);
    }

    private static void face() {
        Class<?> c = StepsBeyond.class;
        Due.holds("public and final", Modifier.isPublic(c.getModifiers()) && Modifier.isFinal(c.getModifiers()));
        Set<String> methods = new TreeSet<>();
        for (Method m : c.getDeclaredMethods()) {
            if (!Modifier.isPrivate(m.getModifiers())) {
                Due.holds(m + " is public", Modifier.isPublic(m.getModifiers()) && m.getReturnType() == int.class);
                methods.add(told(m));
            }
        }
        Due.holds("the methods of the face", methods.equals(new TreeSet<>(List.of(FACE))));
        Set<String> fields = new TreeSet<>();
        for (Field f : c.getDeclaredFields()) {
            if (!Modifier.isPrivate(f.getModifiers())) {
                fields.add(Modifier.toString(f.getModifiers()) + " " + f.getType() + " " + f.getName());
            }
        }
        Due.holds("the constants", fields.equals(new TreeSet<>(List.of(CONSTANTS))));
        Constructor<?>[] constructors = c.getDeclaredConstructors();
        Due.is("one constructor", constructors.length, 1);
        Due.holds("public", Modifier.isPublic(constructors[0].getModifiers()));
    }

    private static String told(Method m) {
        List<String> types = new ArrayList<>();
        for (Class<?> type : m.getParameterTypes()) {
            types.add(type.getName());
        }
        return m.getName() + "(" + String.join(", ", types) + ")";
    }

    /** Rule 1: no private method bears the name of a public one. */
    private static void names() {
        Set<String> names = new HashSet<>();
        for (String call : FACE) {
            names.add(call.substring(0, call.indexOf('(')));
        }
        List<Class<?>> classes = new ArrayList<>(List.of(StepsBeyond.class.getDeclaredClasses()));
        classes.add(StepsBeyond.class);
        for (Class<?> c : classes) {
            for (Method m : c.getDeclaredMethods()) {
                boolean isNamedSo = names.contains(m.getName());
                Due.holds(m + " is named as a public one", !isNamedSo || Modifier.isPublic(m.getModifiers()));
            }
        }
    }

    /** Calls make no objects, but for the two rows of a text. */
    private static void roomOfCalls() {
        StepsBeyond x = new StepsBeyond();
        com.sun.management.ThreadMXBean bean = (com.sun.management.ThreadMXBean) ManagementFactory.getThreadMXBean();
        long id = Thread.currentThread().getId();
        everyCall(x);
        long before = bean.getThreadAllocatedBytes(id);
        for (int i = 0; i < 10; i++) {
            everyCall(x);
        }
        long took = bean.getThreadAllocatedBytes(id) - before;
        Due.holds("ten times every call take " + took + " bytes of room", took < 20000);
    }

    /** Even a run in which every call makes a new object has room. */
    private static void roomOfAnObject() throws IllegalAccessException {
        StepsBeyond x = new StepsBeyond();
        for (int i = 0; i < 5; i++) {
            everyCall(x);
        }
        Set<Object> seen = Collections.newSetFromMap(new IdentityHashMap<>());
        long elements = elementsOf(x, seen);
        Due.holds("an object has " + seen.size() + " objects and arrays", seen.size() <= ROOM_OF_OBJECTS / 512);
        Due.holds("and " + elements + " fields and elements", elements <= ROOM_OF_ELEMENTS / 512);
    }

    private static long elementsOf(Object part, Set<Object> seen) throws IllegalAccessException {
        if (part == null || !seen.add(part)) {
            return 0;
        }
        Class<?> c = part.getClass();
        if (c.isArray()) {
            long elements = Array.getLength(part);
            for (int i = 0; i < Array.getLength(part) && !c.getComponentType().isPrimitive(); i++) {
                elements += elementsOf(Array.get(part, i), seen);
            }
            return elements;
        }
        long elements = 0;
        for (Field f : c.getDeclaredFields()) {
            if (!Modifier.isStatic(f.getModifiers())) {
                f.setAccessible(true);
                elements += 1 + (f.getType().isPrimitive() ? 0 : elementsOf(f.get(part), seen));
            }
        }
        return elements;
    }

    private static void everyCall(StepsBeyond x) {
        x.house(3, 0);
        x.house(903, 1);
        x.hut(0, 1);
        x.near(0, 1);
        x.far(0);
        x.town(0);
        x.burn(0);
        x.feed(0x6e65617220313b66L, 8);
        x.feed(0x617220313b20L, 6);
        x.text();
        x.force(0);
        for (int kind = 0; kind < 6; kind++) {
            x.shape(kind, 0, 30);
            x.within(kind, 5);
            x.size(kind);
            x.shapeTold(kind, 3);
        }
        x.loaf(40);
        x.both(3, 4, 0);
        x.laid(5, 1599);
        x.ravine(0, 7, 2, 30, 9);
        x.steps(0, 1599);
        x.person(2, 5);
        x.moves(0, 9);
        x.personTold(0, 2);
        x.well(7);
        x.may(0, 7, 9);
        x.wells(0, 9);
        x.who(7, 9);
        x.meet(0, 1, 0);
        x.shed(0, 1);
        x.bridge(0, 1, 80);
        x.count(1);
        x.image();
        x.back();
        x.sheet(0, 2, 40);
        x.cell(0, 0, 1);
        x.copy(0, 0, 0, 1, 30);
        x.houses(0, 2, 0, 20);
        x.taken(25, 0);
    }
}
