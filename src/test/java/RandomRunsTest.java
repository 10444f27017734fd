import java.lang.reflect.Method;
import java.util.ArrayList;
import java.util.Comparator;
import java.util.List;
import java.util.Random;

/** Promises 1 to 37 at once: runs of 512 calls on StepsBeyond and on PlainModel, whose answers must be alike. */
public final class RandomRunsTest {
    private static final int RUNS = 150;
    private static final int CALLS = 512;

    private final Random random;
    private final StepsBeyond real = new StepsBeyond();
    private final PlainModel model = new PlainModel();
    private final List<String> told = new ArrayList<>();
    /** About how many towns: houses stand in a square of this width. */
    private final int land;
    private String waiting = "";

    private RandomRunsTest(long seed) {
        random = new Random(seed);
        land = 6 + random.nextInt(35);
    }

    public static void main(String[] args) throws ReflectiveOperationException {
        int runs = args.length > 0 ? Integer.parseInt(args[0]) : RUNS;
        long seed = args.length > 1 ? Long.parseLong(args[1]) : 0;
        for (int run = 0; run < runs; run++) {
            if (!new RandomRunsTest(seed + run).run(run)) {
                break;
            }
        }
        Due.end();
    }

    private boolean run(int run) throws ReflectiveOperationException {
        List<Method> calls = new ArrayList<>();
        for (Method m : StepsBeyond.class.getDeclaredMethods()) {
            if (java.lang.reflect.Modifier.isPublic(m.getModifiers())) {
                calls.add(m);
            }
        }
        calls.sort(Comparator.comparing(Method::getName));
        for (int i = 0; i < CALLS; i++) {
            Method m = next(calls, i);
            Object[] args = m.getName().equals("feed") ? feeding() : numbers(m);
            Method own = PlainModel.class.getDeclaredMethod(m.getName(), m.getParameterTypes());
            int got = (Integer) m.invoke(real, args);
            int due = (Integer) own.invoke(model, args);
            told.add(m.getName() + java.util.Arrays.toString(args) + " = " + got);
            if (got != due) {
                told.forEach(System.out::println);
            }
            Due.is("run " + run + ", call " + i + ", " + told.get(told.size() - 1), got, due);
            if (got != due) {
                return false;
            }
        }
        return true;
    }

    /** Early calls build, so that later ones find something. */
    private Method next(List<Method> calls, int i) {
        String name = null;
        if (!waiting.isEmpty() && random.nextInt(3) > 0) {
            name = "feed";
        } else if (waiting.isEmpty() && model.count(8) > 0 && random.nextInt(3) > 0) {
            name = "text";
        } else if (i < 60 && random.nextInt(2) == 0) {
            String[] building = {"house", "house", "house", "shape", "shape", "person", "well", "ravine", "feed"};
            name = building[random.nextInt(building.length)];
        }
        for (Method m : calls) {
            if (m.getName().equals(name)) {
                return m;
            }
        }
        return calls.get(random.nextInt(calls.size()));
    }

    private Object[] feeding() {
        if (random.nextInt(40) == 0) {
            return new Object[] {random.nextLong(), random.nextInt(11) - 1};
        }
        if (waiting.isEmpty()) {
            waiting = text();
        }
        int n = Math.min(waiting.length(), 1 + random.nextInt(8));
        long w = random.nextInt(2) == 0 ? 0 : random.nextLong();
        for (int i = 0; i < n; i++) {
            w = w << 8 | waiting.charAt(i);
        }
        waiting = waiting.substring(n);
        return new Object[] {w, n};
    }

    private String text() {
        String text = "near " + either(0) + ";far " + either(0) + ";";
        if (random.nextInt(3) == 0) {
            text = text.replace(";", " ; ").replace(" ", random.nextBoolean() ? "  " : "\n");
        }
        if (random.nextInt(3) == 0) {
            int i = random.nextInt(text.length());
            String odd = "()+-*<=;x79 \t\n" + (char) 200;
            char c = odd.charAt(random.nextInt(odd.length()));
            text = text.substring(0, i) + (random.nextBoolean() ? c : "") + text.substring(i + random.nextInt(2));
        }
        return text;
    }

    private String either(int depth) {
        return random.nextInt(5) == 0 ? both(depth) + " or " + both(depth) : both(depth);
    }

    private String both(int depth) {
        return random.nextInt(4) == 0 ? not(depth) + " and " + not(depth) : not(depth);
    }

    private String not(int depth) {
        if (random.nextInt(8) == 0) {
            return "not " + not(depth);
        }
        return random.nextInt(2) == 0 ? sum(depth) + (random.nextInt(4) == 0 ? "=" : "<") + sum(depth) : sum(depth);
    }

    private String sum(int depth) {
        String sum = one(depth);
        while (random.nextInt(4) == 0) {
            sum += "+-*".charAt(random.nextInt(3)) + one(depth);
        }
        return sum;
    }

    private String one(int depth) {
        String[] names = {"apart", "side", "huts", "houses", "loaf", "ravines", "side", "apart"};
        int which = random.nextInt(depth > 6 ? 14 : 18);
        if (which < 6) {
            return "" + random.nextInt(new int[] {3, 12, 60, 10000}[random.nextInt(4)]);
        }
        return which < 14 ? names[which - 6] : which < 16 ? "-" + one(depth + 1) : "(" + either(depth + 1) + ")";
    }

    /** Numbers mostly as told, of each parameter by the call's name and its place; some of them wrong. */
    private Object[] numbers(Method m) {
        Object[] args = new Object[m.getParameterCount()];
        for (int k = 0; k < args.length; k++) {
            String what = m.getName() + k;
            int most = most(what);
            int number = most == 1599 ? place() : random.nextInt(most + 1);
            if (random.nextInt(25) == 0) {
                number = new int[] {-1, most + 1, Integer.MIN_VALUE, Integer.MAX_VALUE, -2, 0}[random.nextInt(6)];
            }
            args[k] = number;
        }
        return args;
    }

    private int place() {
        return random.nextInt(6) == 0 ? random.nextInt(1600) : random.nextInt(land) * 40 + random.nextInt(land);
    }

    private int most(String what) {
        switch (what) {
            case "house0": case "loaf0": case "within1": case "laid1": case "steps0": case "steps1": case "person0":
            case "moves1": case "well0": case "may1": case "who0": case "cell2":
                return 1599;
            case "hut0": case "near0": case "near1": case "town0": case "burn0": case "shape1": case "shed0":
            case "shed1": case "bridge0": case "bridge1":
                return Math.max(0, Math.min(19, model.count(0)));
            case "shapeTold0": case "within0": case "size0": case "both0": case "both1": case "laid0": case "person1":
                return Math.max(0, model.count(2) - 1);
            case "moves0": case "personTold0": case "may0": case "wells0": case "meet0": case "meet1":
                return Math.max(0, model.count(4) - 1);
            case "may2": case "wells1": case "who1":
                return random.nextInt(3) == 0 ? 9999 : 60;
            case "house1": case "hut1": case "far0": case "ravine0": case "meet2":
                return 1;
            case "both2": case "personTold1": case "sheet1": case "houses1":
                return 2;
            case "sheet0": case "cell0": case "copy0": case "copy2": case "houses0":
                return 3;
            case "shapeTold1":
                return 4;
            case "shape0": case "force0":
                return 5;
            case "taken1":
                return 6;
            case "count0":
                return 8;
            case "cell1": case "copy1": case "copy3": case "copy4": case "houses2":
                return 12;
            case "houses3":
                return 4;
            case "shape2":
                return random.nextInt(2) == 0 ? 30 : 6;
            case "taken0":
                return 31;
            case "ravine1": case "ravine2": case "ravine3":
                return 39;
            case "sheet2":
                return 40;
            case "bridge2":
                return random.nextInt(2) == 0 ? 80 : 20;
            case "ravine4":
                return 99;
            default:
                return 0;
        }
    }
}
