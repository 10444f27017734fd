import java.lang.reflect.Method;
import java.lang.reflect.Modifier;
import java.util.ArrayList;
import java.util.Arrays;
import java.util.Comparator;
import java.util.List;
import java.util.Random;

/**
 * Any arguments in any state: no call throws or fails to end, also behind an object's 512th; up to that one the answers
 * are PlainModel's. The same calls give the same answers, whatever other objects there are.
 */
public final class AnyNumbersTest {
    private static final int RUNS = 120;
    private static final int PROMISED = 512;
    private static final int CALLS = 1500;

    /** Each limit of the document, what is one below and one above it, and the ends of an int. */
    private static final int[] LIMITS = {
        0, 1, 2, 3, 4, 5, 6, 7, 8, 10, 12, 19, 20, 30, 31, 39, 40, 50, 80, 99, 100, 127, 128, 160, 255, 256, 512, 1599,
        1600, 9999, 10000, 32767, 32768, 65535, 65536, -1, -2, -3, -4, -5, -12, -40, -100, -128, -32768,
        Integer.MAX_VALUE, Integer.MIN_VALUE};

    private final Random random;
    private final List<Method> calls = new ArrayList<>();

    private AnyNumbersTest(long seed) {
        random = new Random(seed);
        for (Method m : StepsBeyond.class.getDeclaredMethods()) {
            if (Modifier.isPublic(m.getModifiers())) {
                calls.add(m);
            }
        }
        calls.sort(Comparator.comparing(Method::getName));
    }

    public static void main(String[] args) {
        for (int run = 0; run < RUNS; run++) {
            new AnyNumbersTest(run).run(run);
        }
        objectsShareNothing();
        Due.end();
    }

    private void run(int run) {
        StepsBeyond x = new StepsBeyond();
        StepsBeyond alike = new StepsBeyond();
        PlainModel model = new PlainModel();
        for (int i = 0; i < CALLS; i++) {
            Method m = calls.get(random.nextInt(calls.size()));
            Object[] args = numbersFor(m);
            String told = "run " + run + ", call " + i + ": " + m.getName() + Arrays.toString(args);
            int answer = Script.answer(x, m.getName(), args);
            Due.is(told + " (the same calls)", Script.answer(alike, m.getName(), args), answer);
            if (i < PROMISED) {
                Due.is(told, answer, Script.answer(model, m.getName(), args));
            }
        }
    }

    private Object[] numbersFor(Method m) {
        Object[] args = new Object[m.getParameterCount()];
        // half of all calls have small numbers, or nothing would ever be there
        boolean small = random.nextBoolean();
        for (int k = 0; k < args.length; k++) {
            int number = small ? random.nextInt(4) : LIMITS[random.nextInt(LIMITS.length)] + random.nextInt(3) - 1;
            if (m.getParameterTypes()[k] == long.class) {
                args[k] = random.nextInt(4) == 0 ? (long) number : random.nextLong();
            } else {
                args[k] = number;
            }
        }
        return args;
    }

    /** One object is built up while others are asked in between; what they have comes to none of the others. */
    private static void objectsShareNothing() {
        StepsBeyond one = new StepsBeyond();
        StepsBeyond other = new StepsBeyond();
        String script = """
            house(10:10, 0) = 0
            house(30:30, 1) = 1
            shape(1, 0, 3) = 0
            person(10:10, 0) = 0
            ravine(0, 5, 3, 9, 7) = 1
            well(10:11) = 0
            loaf(7:7) = 0
            sheet(0, 2, 4) = 1
            cell(0, 0, 9) = 1
            text "near 1;far 5;" = 1
            image() = 2
            force(1) = 0
            feed "near 1;far 7;"
            """;
        StepsBeyond full = Script.made(script);
        Due.holds("an object made ahead of another is as new", Look.at(one).equals(Look.at(new StepsBeyond())));
        Due.holds("an object that isn't asked stays", Look.at(full).equals(Look.at(Script.made(script))));
        Due.holds("a look at others changes nothing", Look.at(other).equals(Look.at(new StepsBeyond())));
    }
}
