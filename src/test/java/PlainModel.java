import java.util.ArrayList;
import java.util.Arrays;
import java.util.HashSet;
import java.util.List;
import java.util.PriorityQueue;
import java.util.Set;
import java.util.TreeSet;
import java.util.function.IntBinaryOperator;
import java.util.regex.Matcher;
import java.util.regex.Pattern;

/**
 * The document once more, written with the Java library and without a thought for speed, so that its slips are
 * not those of StepsBeyond.
 */
final class PlainModel {
    private record House(int p, int hut) { }
    private record Shape(int kind, int h, int more) { }
    private record Person(int p, int s) { }
    private record Ravine(int way, int at, int from, int to, int wide) { }
    private record Text(Value near, Value far) { }
    private record Image(List<House> houses, List<Person> people, int loaf, int law) { }
    private record Names(int apart, int side, int huts, int houses, int loaf, int ravines) { }

    private interface Value {
        int of(Names n);
    }

    private static final class Fault extends RuntimeException {
        private static final long serialVersionUID = 1;
        final int at;

        Fault(int at) {
            super(null, null, false, false);
            this.at = at;
        }
    }

    private final List<House> houses = new ArrayList<>();
    private final List<Shape> shapes = new ArrayList<>();
    private final List<Person> people = new ArrayList<>();
    private final List<Ravine> ravines = new ArrayList<>();
    private final List<Integer> wells = new ArrayList<>();
    private final List<Text> texts = new ArrayList<>();
    private final StringBuilder tape = new StringBuilder();
    private final int[][] sheets = new int[4][];
    private final int[] sorts = {-1, -1, -1, -1};
    private int law = 0;
    private int loaf = 0;
    private Image image = null;

    PlainModel() {
        texts.add(new Parser("near apart < 50 and huts < 2 ; far 12 - loaf * 4 ;").text());
    }

    // ---- what the document's terms are

    private static int x(int p) {
        return p % 40;
    }

    private static int y(int p) {
        return p / 40;
    }

    private static int apart(int p, int q) {
        return Math.abs(x(p) - x(q)) + Math.abs(y(p) - y(q));
    }

    private static boolean place(int p) {
        return p >= 0 && p < 1600;
    }

    private static boolean in(int i, List<?> list) {
        return i >= 0 && i < list.size();
    }

    private boolean isNear(House a, House b) {
        int dx = x(a.p) - x(b.p);
        int dy = y(a.p) - y(b.p);
        Names n = new Names(dx * dx + dy * dy, apart(a.p, b.p), a.hut + b.hut, houses.size(), 0, ravines.size());
        return texts.get(law).near.of(n) != 0;
    }

    private int isFar(int byLoaf) {
        int far = texts.get(law).far.of(new Names(0, 0, 0, houses.size(), byLoaf, ravines.size()));
        return far < 0 ? 0 : far > 50 ? 50 : far;
    }

    private Set<Integer> townAmong(int h, Set<Integer> some) {
        Set<Integer> town = new TreeSet<>();
        List<Integer> open = new ArrayList<>(List.of(h));
        while (!open.isEmpty()) {
            int a = open.remove(open.size() - 1);
            if (town.add(a)) {
                for (int b : some) {
                    if (a != b && isNear(houses.get(a), houses.get(b))) {
                        open.add(b);
                    }
                }
            }
        }
        return town;
    }

    private Set<Integer> all() {
        Set<Integer> all = new TreeSet<>();
        for (int h = 0; h < houses.size(); h++) {
            all.add(h);
        }
        return all;
    }

    private Set<Integer> townSet(int h) {
        return townAmong(h, all());
    }

    private static int bits(Set<Integer> set) {
        return set.stream().mapToInt(i -> 1 << i).sum();
    }

    private int reach(Shape s) {
        return switch (s.kind) {
            case 3 -> s.more / 2;
            case 4 -> s.more + isFar(0);
            case 5 -> Math.max(0, s.more + isFar(1) - 1);
            default -> s.more;
        };
    }

    private boolean[] area(Shape s, int loafAt) {
        int reach = reach(s);
        int[] ps = s.kind == 0 ? new int[] {houses.get(s.h).p}
            : s.kind == 5 ? new int[] {loafAt}
            : townSet(s.h).stream().mapToInt(h -> houses.get(h).p).toArray();
        int x0 = Arrays.stream(ps).map(PlainModel::x).min().getAsInt();
        int x1 = Arrays.stream(ps).map(PlainModel::x).max().getAsInt();
        int y0 = Arrays.stream(ps).map(PlainModel::y).min().getAsInt();
        int y1 = Arrays.stream(ps).map(PlainModel::y).max().getAsInt();
        boolean[] area = new boolean[1600];
        for (int p = 0; p < 1600; p++) {
            int q = p;
            boolean by = Arrays.stream(ps).anyMatch(o -> apart(o, q) <= reach);
            boolean square = x(p) >= x0 - reach && x(p) <= x1 + reach && y(p) >= y0 - reach && y(p) <= y1 + reach;
            boolean box = x(p) >= x0 && x(p) <= x1 && y(p) >= y0 && y(p) <= y1;
            boolean small = !(x1 - x0 > 2 * s.more) && !(y1 - y0 > 2 * s.more);
            area[p] = switch (s.kind) {
                case 0, 1 -> by;
                case 3 -> by || small && box;
                default -> square;
            };
        }
        return area;
    }

    private boolean[] area(int s) {
        return area(shapes.get(s), loaf);
    }

    private int step(int p, int q) {
        int takes = 1;
        for (Ravine r : ravines) {
            boolean crosses = r.way == 0
                ? y(p) == y(q) && Math.max(x(p), x(q)) == r.at && y(p) >= r.from && y(p) <= r.to
                : x(p) == x(q) && Math.max(y(p), y(q)) == r.at && x(p) >= r.from && x(p) <= r.to;
            takes += crosses ? r.wide : 0;
        }
        return takes;
    }

    private int[] fewest(int from) {
        int[] takes = new int[1600];
        Arrays.fill(takes, -1);
        PriorityQueue<int[]> open = new PriorityQueue<>((a, b) -> Integer.compare(a[1], b[1]));
        open.add(new int[] {from, 0});
        while (!open.isEmpty()) {
            int[] next = open.remove();
            int p = next[0];
            if (takes[p] >= 0) {
                continue;
            }
            takes[p] = next[1];
            for (int[] d : new int[][] {{0, -1}, {1, 0}, {0, 1}, {-1, 0}}) {
                int qx = x(p) + d[0];
                int qy = y(p) + d[1];
                if (qx >= 0 && qx < 40 && qy >= 0 && qy < 40 && takes[qy * 40 + qx] < 0) {
                    open.add(new int[] {qy * 40 + qx, next[1] + step(p, qy * 40 + qx)});
                }
            }
        }
        return takes;
    }

    private int why(Person one, int p, int most) {
        boolean[] area = area(one.s);
        if (!area[one.p]) {
            return apart(one.p, p) <= 2 ? 0 : 1;
        }
        return !area[p] ? 2 : fewest(one.p)[p] > most ? 3 : 0;
    }

    // ---- the calls

    int house(int p, int hut) {
        if (!place(p) || hut < 0 || hut > 1) {
            return -2;
        }
        if (houses.size() == 20) {
            return -4;
        }
        houses.add(new House(p, hut));
        return houses.size() - 1;
    }

    int hut(int h, int is) {
        if (!in(h, houses)) {
            return -1;
        }
        if (is < 0 || is > 1) {
            return -2;
        }
        return houses.set(h, new House(houses.get(h).p, is)).hut;
    }

    int near(int a, int b) {
        return !in(a, houses) || !in(b, houses) || a == b ? -2 : isNear(houses.get(a), houses.get(b)) ? 1 : 0;
    }

    int far(int byLoaf) {
        return byLoaf < 0 || byLoaf > 1 ? -2 : isFar(byLoaf);
    }

    int town(int h) {
        return in(h, houses) ? bits(townSet(h)) : -1;
    }

    int burn(int h) {
        if (!in(h, houses)) {
            return -1;
        }
        Set<Integer> town = townSet(h);
        Set<Integer> burn = new TreeSet<>();
        for (int k : town) {
            Set<Integer> others = new TreeSet<>(town);
            others.remove(k);
            if (!others.isEmpty() && !townAmong(others.iterator().next(), others).equals(others)) {
                burn.add(k);
            }
        }
        return bits(burn);
    }

    int feed(long w, int n) {
        if (n < 1 || n > 8) {
            return -2;
        }
        if (tape.length() + n > 160) {
            return -4;
        }
        byte[] eight = java.nio.ByteBuffer.allocate(8).putLong(w).array();
        for (int i = 8 - n; i < 8; i++) {
            tape.append((char) (eight[i] & 255));
        }
        return tape.length();
    }

    int text() {
        if (texts.size() == 6) {
            return -4;
        }
        String read = tape.toString();
        tape.setLength(0);
        try {
            texts.add(new Parser(read).text());
            return texts.size() - 1;
        } catch (Fault f) {
            return -100 - f.at;
        }
    }

    int force(int t) {
        if (!in(t, texts)) {
            return -2;
        }
        int was = law;
        law = t;
        return was;
    }

    int shape(int kind, int h, int more) {
        if (kind < 0 || kind > 5 || more < 0 || more > 30) {
            return -2;
        }
        if (!in(h, houses)) {
            return -1;
        }
        if (shapes.size() == 12) {
            return -4;
        }
        shapes.add(new Shape(kind, h, more));
        return shapes.size() - 1;
    }

    int loaf(int p) {
        if (!place(p)) {
            return -2;
        }
        int was = loaf;
        loaf = p;
        return was;
    }

    int shapeTold(int i, int what) {
        if (!in(i, shapes)) {
            return -5;
        }
        Shape s = shapes.get(i);
        return switch (what) {
            case 0 -> s.kind;
            case 1 -> s.h;
            case 2 -> s.more;
            case 3 -> reach(s);
            case 4 -> s.kind == 5 ? loaf : houses.get(s.h).p;
            default -> -7;
        };
    }

    int within(int s, int p) {
        return !in(s, shapes) ? -1 : !place(p) ? -2 : area(s)[p] ? 1 : 0;
    }

    int size(int s) {
        if (!in(s, shapes)) {
            return -1;
        }
        int size = 0;
        for (boolean is : area(s)) {
            size += is ? 1 : 0;
        }
        return size;
    }

    int both(int s, int o, int what) {
        if (!in(s, shapes) || !in(o, shapes)) {
            return -1;
        }
        if (what < 0 || what > 2) {
            return -2;
        }
        boolean[] a = area(s);
        boolean[] b = area(o);
        int[] counts = new int[3];
        for (int p = 0; p < 1600; p++) {
            if (a[p] && b[p]) {
                counts[0]++;
            } else if (a[p]) {
                counts[1]++;
            } else if (b[p]) {
                counts[2]++;
            }
        }
        return counts[what];
    }

    int laid(int s, int p) {
        if (!in(s, shapes)) {
            return -1;
        }
        if (!place(p)) {
            return -2;
        }
        if (shapes.get(s).kind != 5) {
            return -13;
        }
        int r = reach(shapes.get(s));
        return Math.max(0, y(p) - r) * 40 + Math.max(0, x(p) - r);
    }

    int ravine(int way, int at, int from, int to, int wide) {
        if (way < 0 || way > 1 || at < 1 || at > 39 || from < 0 || to > 39 || from > to || wide < 1 || wide > 99) {
            return -2;
        }
        if (ravines.size() == 6) {
            return -4;
        }
        ravines.add(new Ravine(way, at, from, to, wide));
        return ravines.size();
    }

    int steps(int p, int q) {
        return !place(p) || !place(q) ? -2 : fewest(p)[q];
    }

    int person(int p, int s) {
        if (!place(p)) {
            return -2;
        }
        if (!in(s, shapes)) {
            return -1;
        }
        if (people.size() == 8) {
            return -4;
        }
        people.add(new Person(p, s));
        return people.size() - 1;
    }

    int moves(int i, int p) {
        if (!in(i, people)) {
            return -1;
        }
        return !place(p) ? -2 : people.set(i, new Person(p, people.get(i).s)).p;
    }

    int personTold(int i, int what) {
        if (!in(i, people)) {
            return -5;
        }
        Person one = people.get(i);
        return switch (what) {
            case 0 -> one.p;
            case 1 -> one.s;
            case 2 -> area(one.s)[one.p] ? 0 : 1;
            default -> -7;
        };
    }

    int well(int p) {
        if (!place(p)) {
            return -2;
        }
        if (wells.size() == 10) {
            return -4;
        }
        wells.add(p);
        return wells.size() - 1;
    }

    int may(int i, int p, int most) {
        return !in(i, people) ? -5 : !place(p) || most < 0 || most > 9999 ? -7 : why(people.get(i), p, most);
    }

    int wells(int i, int most) {
        if (!in(i, people)) {
            return -5;
        }
        if (most < 0 || most > 9999) {
            return -7;
        }
        Set<Integer> set = new HashSet<>();
        for (int k = 0; k < wells.size(); k++) {
            if (why(people.get(i), wells.get(k), most) == 0) {
                set.add(k);
            }
        }
        return bits(set);
    }

    int who(int p, int most) {
        if (!place(p) || most < 0 || most > 9999) {
            return -2;
        }
        Set<Integer> set = new HashSet<>();
        for (int i = 0; i < people.size(); i++) {
            if (why(people.get(i), p, most) == 0) {
                set.add(i);
            }
        }
        return bits(set);
    }

    int meet(int i, int j, int what) {
        if (!in(i, people) || !in(j, people) || i == j) {
            return -5;
        }
        if (what < 0 || what > 1) {
            return -7;
        }
        if (personTold(i, 2) + personTold(j, 2) > 0) {
            return -3;
        }
        boolean[] a = area(people.get(i).s);
        boolean[] b = area(people.get(j).s);
        int[] one = fewest(people.get(i).p);
        int[] other = fewest(people.get(j).p);
        TreeSet<Long> found = new TreeSet<>();
        for (int p = 0; p < 1600; p++) {
            if (a[p] && b[p]) {
                found.add((one[p] + other[p]) * 10000L + p);
            }
        }
        return found.isEmpty() ? -1 : (int) (what == 0 ? found.first() % 10000 : found.first() / 10000);
    }

    int shed(int a, int b) {
        if (!in(a, houses) || !in(b, houses)) {
            return -1;
        }
        Set<Integer> one = townSet(a);
        Set<Integer> other = townSet(b);
        if (one.equals(other)) {
            return -3;
        }
        for (int p = 0; p < 1600; p++) {
            House hut = new House(p, 1);
            if (one.stream().anyMatch(h -> isNear(hut, houses.get(h)))
                && other.stream().anyMatch(h -> isNear(houses.get(h), hut))) {
                return p;
            }
        }
        return -6;
    }

    int bridge(int a, int b, int most) {
        if (!in(a, houses) || !in(b, houses)) {
            return -1;
        }
        if (most < 0 || most > 80) {
            return -2;
        }
        Set<Integer> held = townSet(a);
        int rounds = 0;
        while (!held.contains(b)) {
            Set<Integer> next = new TreeSet<>(held);
            for (int h : held) {
                for (int k : all()) {
                    if (apart(houses.get(h).p, houses.get(k).p) <= most) {
                        next.addAll(townSet(k));
                    }
                }
            }
            if (next.equals(held)) {
                return -3;
            }
            held = next;
            rounds++;
        }
        return rounds;
    }

    int count(int what) {
        return switch (what) {
            case 0 -> houses.size();
            case 1 -> {
                Set<Set<Integer>> towns = new HashSet<>();
                for (int h : all()) {
                    towns.add(townSet(h));
                }
                yield towns.size();
            }
            case 2 -> shapes.size();
            case 3 -> ravines.size();
            case 4 -> people.size();
            case 5 -> wells.size();
            case 6 -> texts.size();
            case 7 -> law;
            case 8 -> tape.length();
            default -> -2;
        };
    }

    int image() {
        image = new Image(new ArrayList<>(houses), new ArrayList<>(people), loaf, law);
        return houses.size();
    }

    int back() {
        if (image == null) {
            return -3;
        }
        for (int h = 0; h < image.houses.size(); h++) {
            houses.set(h, image.houses.get(h));
        }
        for (int i = 0; i < image.people.size(); i++) {
            people.set(i, image.people.get(i));
        }
        loaf = image.loaf;
        law = image.law;
        return houses.size();
    }

    int sheet(int s, int sort, int n) {
        if (s < 0 || s > 3 || sort < -1 || sort > 2 || sort >= 0 && n > 40) {
            return -2;
        }
        if (sort >= 0 && n < 0) {
            return -14;
        }
        sorts[s] = sort;
        sheets[s] = sort < 0 ? null : new int[n];
        return 1;
    }

    int cell(int s, int i, int v) {
        if (s < 0 || s > 3) {
            return -2;
        }
        if (sheets[s] == null) {
            return -11;
        }
        if (i < 0 || i >= sheets[s].length) {
            return -12;
        }
        sheets[s][i] = sorts[s] == 0 ? (byte) v : sorts[s] == 1 ? (short) v : v;
        return 1;
    }

    int copy(int s, int i, int other, int j, int n) {
        if (s < 0 || s > 3 || other < 0 || other > 3) {
            return -2;
        }
        if (sheets[s] == null || sheets[other] == null) {
            return -11;
        }
        if (sorts[s] != sorts[other]) {
            return -13;
        }
        try {
            System.arraycopy(sheets[s], i, sheets[other], j, n);
            return n;
        } catch (IndexOutOfBoundsException e) {
            return -12;
        }
    }

    int houses(int s, int sort, int at, int n) {
        if (s < 0 || s > 3 || sort < 0 || sort > 2 || n < 0 || n > 20) {
            return -2;
        }
        if (sheets[s] == null) {
            return -11;
        }
        if (sorts[s] != sort) {
            return -13;
        }
        int came = 0;
        try {
            for (int k = 0; k < n; k++) {
                came += house(sheets[s][at + 2 * k], sheets[s][at + 2 * k + 1]) >= 0 ? 1 : 0;
            }
        } catch (ArrayIndexOutOfBoundsException e) {
            return -12;
        }
        return came;
    }

    int taken(int i, int kind) {
        if (kind < 0 || kind > 6) {
            return -2;
        }
        if (i < 0 || i > 31) {
            return -12;
        }
        if (i < 20) {
            return !in(i, houses) ? -11 : kind == 6 ? houses.get(i).p : -13;
        }
        if (!in(i - 20, shapes)) {
            return -11;
        }
        String[] are = {"0", "01", "012", "013", "0124", "01245"};
        return are[shapes.get(i - 20).kind].contains("" + kind) ? i - 20 : -13;
    }

    // ---- texts

    /** Cuts a text into tokens first, all of them, and builds a tree of values. */
    private static final class Parser {
        private static final Pattern TOKEN = Pattern.compile("[a-z]+|[0-9]+|[^ \n]", Pattern.DOTALL);
        private final List<String> tokens = new ArrayList<>();
        private final List<Integer> places = new ArrayList<>();
        private int i = 0;
        private int open = 0;

        Parser(String text) {
            Matcher m = TOKEN.matcher(text);
            while (m.find()) {
                tokens.add(m.group());
                places.add(m.start());
            }
            tokens.add("the end");
            places.add(text.length());
        }

        Text text() {
            must("near");
            Value near = either();
            must(";");
            must("far");
            Value far = either();
            must(";");
            must("the end");
            return new Text(near, far);
        }

        private boolean at(String... some) {
            return Arrays.asList(some).contains(tokens.get(i));
        }

        private Fault fault() {
            return new Fault(places.get(i));
        }

        private void must(String token) {
            if (!at(token)) {
                throw fault();
            }
            i++;
        }

        private void opens() {
            if (open == 5) {
                throw fault();
            }
            open++;
            i++;
        }

        private static Value two(Value a, Value b, IntBinaryOperator op) {
            return n -> op.applyAsInt(a.of(n), b.of(n));
        }

        private Value either() {
            Value v = and();
            while (at("or")) {
                i++;
                v = two(v, and(), (a, b) -> (a | b) != 0 ? 1 : 0);
            }
            return v;
        }

        private Value and() {
            Value v = not();
            while (at("and")) {
                i++;
                v = two(v, not(), (a, b) -> a == 0 || b == 0 ? 0 : 1);
            }
            return v;
        }

        private Value not() {
            if (at("not")) {
                opens();
                Value v = not();
                open--;
                return n -> v.of(n) == 0 ? 1 : 0;
            }
            Value v = sum();
            if (at("<")) {
                i++;
                return two(v, sum(), (a, b) -> a < b ? 1 : 0);
            }
            if (at("=")) {
                i++;
                return two(v, sum(), (a, b) -> a == b ? 1 : 0);
            }
            return v;
        }

        private Value sum() {
            Value v = term();
            while (at("+", "-")) {
                v = tokens.get(i++).equals("+") ? two(v, term(), (a, b) -> a + b) : two(v, term(), (a, b) -> a - b);
            }
            return v;
        }

        private Value term() {
            Value v = one();
            while (at("*")) {
                i++;
                v = two(v, one(), (a, b) -> a * b);
            }
            return v;
        }

        private Value one() {
            String token = tokens.get(i);
            if (token.matches("[0-9]{1,4}")) {
                i++;
                int number = Integer.parseInt(token);
                return n -> number;
            }
            if (at("-")) {
                opens();
                Value v = one();
                open--;
                return n -> -v.of(n);
            }
            if (at("(")) {
                opens();
                Value v = either();
                must(")");
                open--;
                return v;
            }
            return name(token);
        }

        private Value name(String token) {
            Value v = switch (token) {
                case "apart" -> Names::apart;
                case "side" -> Names::side;
                case "huts" -> Names::huts;
                case "houses" -> Names::houses;
                case "loaf" -> Names::loaf;
                case "ravines" -> Names::ravines;
                default -> throw fault();
            };
            i++;
            return v;
        }
    }
}
