import java.io.IOException;
import java.lang.management.ManagementFactory;
import java.lang.reflect.Constructor;
import java.lang.reflect.Field;
import java.lang.reflect.Method;
import java.lang.reflect.Modifier;
import java.nio.file.Files;
import java.nio.file.Path;
import java.util.ArrayList;
import java.util.HashSet;
import java.util.List;
import java.util.Set;
import java.util.TreeSet;
import java.util.regex.Matcher;
import java.util.regex.Pattern;

/** The face that the document tells, the rules of LANGUAGE.md that can be seen from outside, and the room. */
public final class RulesTest {
    private static final String[] FACE = {
        "house(int, int)", "hut(int, int)", "near(int, int)", "far(int)", "town(int)", "burn(int)", "feed(long, int)",
        "text()", "force(int)", "shape(int, int, int)", "loaf(int)", "shapeTold(int, int)", "within(int, int)",
        "size(int)", "both(int, int, int)", "laid(int, int)", "ravine(int, int, int, int, int)", "steps(int, int)",
        "person(int, int)", "moves(int, int)", "personTold(int, int)", "well(int)", "may(int, int, int)",
        "wells(int, int)", "who(int, int)", "meet(int, int, int)", "shed(int, int)", "bridge(int, int, int)",
        "count(int)", "image()", "back()", "sheet(int, int, int)", "cell(int, int, int)",
        "copy(int, int, int, int, int)", "houses(int, int, int, int)", "taken(int, int)"};

    public static void main(String[] args) throws IOException {
        constants();
        face();
        classesInside();
        source(Files.readString(Path.of("src/main/java/StepsBeyond.java")));
        room();
        Due.end();
    }

    private static void constants() {
        Due.is("NONE", StepsBeyond.NONE, -1);
        Due.is("BAD", StepsBeyond.BAD, -2);
        Due.is("STATE", StepsBeyond.STATE, -3);
        Due.is("FULL", StepsBeyond.FULL, -4);
        Due.is("NO", StepsBeyond.NO, -4611686018427387904L);
    }

    private static void face() {
        Class<?> c = StepsBeyond.class;
        Due.holds("public and final", Modifier.isPublic(c.getModifiers()) && Modifier.isFinal(c.getModifiers()));
        Set<String> methods = new TreeSet<>();
        for (Method m : c.getDeclaredMethods()) {
            if (!Modifier.isPrivate(m.getModifiers())) {
                Due.holds(m + " is public", Modifier.isPublic(m.getModifiers()) && m.getReturnType() == int.class);
                methods.add(told(m));
            }
        }
        Due.holds("the methods of the face", methods.equals(new TreeSet<>(List.of(FACE))));
        Set<String> fields = new TreeSet<>();
        for (Field f : c.getDeclaredFields()) {
            if (!Modifier.isPrivate(f.getModifiers())) {
                fields.add(f.getName());
            }
        }
        Due.holds("the constants", fields.equals(Set.of("NONE", "BAD", "STATE", "FULL", "NO")));
        Constructor<?>[] constructors = c.getDeclaredConstructors();
        Due.is("one constructor", constructors.length, 1);
        Due.holds("public", Modifier.isPublic(constructors[0].getModifiers()));
    }

    private static String told(Method m) {
        List<String> types = new ArrayList<>();
        for (Class<?> type : m.getParameterTypes()) {
            types.add(type.getName());
        }
        return m.getName() + "(" + String.join(", ", types) + ")";
    }

    private static void classesInside() {
        Set<String> names = new HashSet<>();
        for (String call : FACE) {
            names.add(call.substring(0, call.indexOf('(')));
        }
        List<Class<?>> classes = new ArrayList<>(List.of(StepsBeyond.class.getDeclaredClasses()));
        Due.holds("at most twelve classes", classes.size() + 1 <= 12);
        classes.add(StepsBeyond.class);
        for (Class<?> c : classes) {
            Due.holds(c + " is static", c == StepsBeyond.class || Modifier.isStatic(c.getModifiers()));
            int fields = 0;
            for (Field f : c.getDeclaredFields()) {
                boolean isStatic = Modifier.isStatic(f.getModifiers());
                Due.holds(f + " is final", !isStatic || Modifier.isFinal(f.getModifiers()));
                fields += isStatic ? 0 : 1;
            }
            Due.holds(c + " has at most twenty fields", fields <= 20);
            for (Method m : c.getDeclaredMethods()) {
                boolean called = names.contains(m.getName());
                Due.holds(m + " is named as a public one", !called || Modifier.isPublic(m.getModifiers()));
                Due.holds(m + " has at most seven parameters", m.getParameterCount() <= 7);
            }
        }
    }

    private static void source(String source) {
        String code = source.replaceAll("(?s)/\\*.*?\\*/", " ").replaceAll("//[^\n]*", " ")
            .replaceAll("\"[^\"\n]*\"", "\"\"").replaceAll("'[^'\n]+'", "' '");
        String[] words = {
            "throw", "throws", "try", "catch", "finally", "synchronized", "assert", "package", "instanceof", "double",
            "float", "Exception", "Error", "Thread", "Random", "hashCode", "toString", "equals", "var", "goto",
            "volatile", "transient", "native", "protected"};
        for (String word : words) {
            Due.holds("no " + word, !Pattern.compile("\\b" + word + "\\b").matcher(code).find());
        }
        Due.holds("no lambda, no method reference", !code.contains("->") && !code.contains("::"));
        Due.holds("no Exact", !code.contains("Exact"));
        Matcher imports = Pattern.compile("import ([^;]*);").matcher(code);
        while (imports.find()) {
            Due.holds(imports.group(1), imports.group(1).equals("java.util.Arrays"));
        }
        Matcher library = Pattern.compile("\\b(Arrays|System|Math)\\.(\\w+)").matcher(code);
        Set<String> allowed = Set.of("fill", "copyOf", "copyOfRange", "arraycopy", "abs", "max", "min");
        while (library.find()) {
            Due.holds(library.group(), allowed.contains(library.group(2)));
        }
        Due.holds("ASCII alone", source.chars().allMatch(c -> c < 128));
        methodsAreShort(code);
    }

    private static void methodsAreShort(String code) {
        int since = 0;
        String[] lines = code.split("\n");
        for (int i = 0; i < lines.length; i++) {
            if (lines[i].matches(" {4}(?: {4})?[\\w\\[\\] ]+\\(.*\\) \\{") && !lines[i].matches(".*\\b(if|for|while)\\b.*")) {
                since = i;
            }
            if (lines[i].matches(" {4}(?: {4})?\\}") && since > 0) {
                Due.holds("short: " + lines[since].trim(), i - since <= 60);
                since = 0;
            }
        }
    }

    /** Calls make no objects, but for the two rows of a text. */
    private static void room() {
        StepsBeyond x = new StepsBeyond();
        com.sun.management.ThreadMXBean bean = (com.sun.management.ThreadMXBean) ManagementFactory.getThreadMXBean();
        long id = Thread.currentThread().getId();
        everyCall(x);
        long before = bean.getThreadAllocatedBytes(id);
        for (int i = 0; i < 10; i++) {
            everyCall(x);
        }
        long took = bean.getThreadAllocatedBytes(id) - before;
        Due.holds("ten times every call take " + took + " bytes of room", took < 20000);
    }

    private static void everyCall(StepsBeyond x) {
        x.house(3, 0);
        x.house(903, 1);
        x.hut(0, 1);
        x.near(0, 1);
        x.far(0);
        x.town(0);
        x.burn(0);
        x.feed(0x6e65617220313b66L, 8);
        x.feed(0x617220313b20L, 6);
        x.text();
        x.force(0);
        for (int kind = 0; kind < 6; kind++) {
            x.shape(kind, 0, 30);
            x.within(kind, 5);
            x.size(kind);
            x.shapeTold(kind, 3);
        }
        x.loaf(40);
        x.both(3, 4, 0);
        x.laid(5, 1599);
        x.ravine(0, 7, 2, 30, 9);
        x.steps(0, 1599);
        x.person(2, 5);
        x.moves(0, 9);
        x.personTold(0, 2);
        x.well(7);
        x.may(0, 7, 9);
        x.wells(0, 9);
        x.who(7, 9);
        x.meet(0, 1, 0);
        x.shed(0, 1);
        x.bridge(0, 1, 80);
        x.count(1);
        x.image();
        x.back();
        x.sheet(0, 2, 40);
        x.cell(0, 0, 1);
        x.copy(0, 0, 0, 1, 30);
        x.houses(0, 2, 0, 20);
        x.taken(25, 0);
    }
}
