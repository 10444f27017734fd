import java.lang.reflect.InvocationTargetException;
import java.lang.reflect.Method;
import java.util.ArrayList;
import java.util.List;
import java.util.Set;

/**
 * Runs of calls written as text, a line each: {@code house(10:12, 0) = 0}. A place may be told as x:y; MIN and MAX are
 * the least and the greatest number of the parameter's type; NONE, BAD, STATE, FULL are the document's. {@code 0..11}
 * behind the = stands for as many calls alike, with these answers. {@code feed "near 1"} feeds that,
 * {@code text "near 1;far 2;" = 1} feeds it and calls text(). What stands behind # is told, not run.
 *
 * Of every run: each answer is as due, PlainModel's too; and calls that are refused or only ask change nothing: an
 * object that is left without them can't be told from one that had them.
 */
final class Script {
    private static final Set<String> ASKING = Set.of(
        "near", "far", "town", "burn", "shapeTold", "within", "size", "both", "laid", "steps", "personTold", "may",
        "wells", "who", "meet", "shed", "bridge", "count", "taken");

    private record Call(String told, String name, Object[] args, int due) {
        boolean isRefused() {
            // houses() lets come what stands ahead of the place outside
            return due < 0 && due > -100 && !(name.equals("houses") && due == -12);
        }

        boolean isIdle() {
            return isRefused() || ASKING.contains(name);
        }
    }

    private final List<Call> calls = new ArrayList<>();

    private Script(String text) {
        for (String line : text.split("\n")) {
            String told = line.replaceAll("\\s# .*$", "").trim();
            if (!told.isEmpty()) {
                take(told);
            }
        }
    }

    /** Runs a text's calls; the title quotes the sentence that they look at. */
    static void run(String title, String text) {
        Script script = new Script(text);
        script.answers(title);
        script.refusalsChangeNothing(title);
    }

    /** An object on which a text's calls have been made, as due. */
    static StepsBeyond made(String text) {
        Script script = new Script(text);
        StepsBeyond x = new StepsBeyond();
        for (Call call : script.calls) {
            Due.is("making: " + call.told, answer(x, call), call.due);
        }
        return x;
    }

    private void answers(String title) {
        StepsBeyond x = new StepsBeyond();
        PlainModel model = new PlainModel();
        for (Call call : calls) {
            Due.is(title + " " + call.told, answer(x, call), call.due);
            Due.is(title + " (the model) " + call.told, answer(model, call), call.due);
        }
    }

    private void refusalsChangeNothing(String title) {
        List<Call> done = new ArrayList<>();
        List<Integer> without = null;
        for (int k = 0; k < calls.size(); k++) {
            Call call = calls.get(k);
            if (!call.isIdle()) {
                done.add(call);
                without = null;
            }
            if (call.isRefused() || k == calls.size() - 1) {
                without = without == null ? lookBehind(done) : without;
                List<Integer> with = lookBehind(calls.subList(0, k + 1));
                Due.holds(title + " changes nothing: " + call.told, with.equals(without));
            }
        }
    }

    private static List<Integer> lookBehind(List<Call> some) {
        if (some.size() + Look.CALLS > 512) {
            throw new IllegalArgumentException("too long a run: " + some.size());
        }
        StepsBeyond x = new StepsBeyond();
        for (Call call : some) {
            answer(x, call);
        }
        return Look.at(x);
    }

    private static int answer(Object on, Call call) {
        return answer(on, call.name, call.args);
    }

    static int answer(Object on, String name, Object[] args) {
        try {
            return (Integer) methodOf(on.getClass(), name).invoke(on, args);
        } catch (IllegalAccessException | InvocationTargetException e) {
            throw new IllegalStateException(name, e);
        }
    }

    private static Method methodOf(Class<?> of, String name) {
        for (Method m : of.getDeclaredMethods()) {
            if (m.getName().equals(name) && !java.lang.reflect.Modifier.isPrivate(m.getModifiers())) {
                return m;
            }
        }
        throw new IllegalArgumentException("no call " + name);
    }

    // ---- reading

    private void take(String line) {
        if (line.startsWith("feed \"") || line.startsWith("text \"")) {
            takeText(line);
            return;
        }
        int equals = line.lastIndexOf(" = ");
        String told = line.substring(0, equals);
        String name = told.substring(0, told.indexOf('('));
        Object[] args = argsOf(name, told.substring(told.indexOf('(') + 1, told.length() - 1));
        String[] due = line.substring(equals + 3).trim().split("\\.\\.");
        int last = numberOf(due[due.length - 1]);
        for (int answer = numberOf(due[0]); answer <= last; answer++) {
            calls.add(new Call(told, name, args, answer));
        }
    }

    private void takeText(String line) {
        int end = line.lastIndexOf('"');
        String text = line.substring(6, end);
        int before = line.startsWith("feed") ? tapeNow() : 0;
        for (int from = 0; from < text.length(); from += 8) {
            int to = Math.min(text.length(), from + 8);
            long w = 0;
            for (int i = from; i < to; i++) {
                w = w << 8 | text.charAt(i);
            }
            Object[] args = {w, to - from};
            calls.add(new Call("feed of " + text.substring(from, to), "feed", args, before + to));
        }
        if (line.startsWith("text")) {
            int due = numberOf(line.substring(line.lastIndexOf('=') + 1).trim());
            calls.add(new Call("text of " + text, "text", new Object[0], due));
        }
    }

    /** What the last feeding came to, as long as no text has been read since. */
    private int tapeNow() {
        for (int k = calls.size() - 1; k >= 0; k--) {
            Call call = calls.get(k);
            if (call.name.equals("text") && !call.isRefused()) {
                return 0;
            }
            if (call.name.equals("feed") && !call.isRefused()) {
                return call.due;
            }
        }
        return 0;
    }

    static Object[] argsOf(String name, String told) {
        String[] parts = told.isBlank() ? new String[0] : told.split(",");
        Class<?>[] types = methodOf(StepsBeyond.class, name).getParameterTypes();
        Object[] args = new Object[parts.length];
        for (int i = 0; i < parts.length; i++) {
            args[i] = argOf(types[i], parts[i].trim());
        }
        return args;
    }

    private static Object argOf(Class<?> type, String told) {
        if (type == long.class) {
            return told.equals("MIN") ? Long.MIN_VALUE
                : told.equals("MAX") ? Long.MAX_VALUE
                : told.startsWith("0x") ? Long.parseUnsignedLong(told.substring(2), 16)
                : Long.parseLong(told);
        }
        return numberOf(told);
    }

    static int numberOf(String told) {
        switch (told) {
            case "MIN":
                return Integer.MIN_VALUE;
            case "MAX":
                return Integer.MAX_VALUE;
            case "NONE":
                return -1;
            case "BAD":
                return -2;
            case "STATE":
                return -3;
            case "FULL":
                return -4;
            default:
                String[] xy = told.split(":");
                int first = Integer.parseInt(xy[0]);
                return xy.length == 1 ? first : Due.place(first, Integer.parseInt(xy[1]));
        }
    }
}
