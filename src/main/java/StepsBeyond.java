import java.util.Arrays;

/** How far one may walk: see README.md for its use and DOC.md's promises for its answers. */
public final class StepsBeyond {
    public static final int NONE = -1, BAD = -2, STATE = -3, FULL = -4;
    public static final long NO = -4611686018427387904L;

    private static final int NO_SUCH = -5, NO_SHED = -6, NOT_TOLD = -7;
    private static final int NOTHING = -11, OUTSIDE = -12, UNLIKE = -13, BELOW_ZERO = -14;
    private static final int FAULT = -100;

    private static final int WIDTH = 40, PLACES = 1600;
    private static final int MOST_HOUSES = 20, MOST_SHAPES = 12, MOST_RAVINES = 6, MOST_PEOPLE = 8;
    private static final int MOST_WELLS = 10, MOST_TEXTS = 6, MOST_BYTES = 160, MOST_OPEN = 5;
    private static final int MOST_MORE = 30, MOST_FAR = 50, MOST_WIDE = 99, MOST_STEPS = 9999;
    private static final int MOST_NUMBER = 80, SHEETS = 4, MOST_CELLS = 40, MOST_DIGITS = 4;

    private static final String FIRST_TEXT = "near apart < 50 and huts < 2 ; far 12 - loaf * 4 ;";

    private static final int SHAPE = 0, TOWN = 1, SQUARE = 2, BOW = 3, WALK = 4, LOAF = 5;
    private static final int A_HOUSE = 6;
    /** Of each KIND the one above it. */
    private static final int[] ABOVE = {NONE, SHAPE, TOWN, TOWN, SQUARE, WALK};

    private static final int ROW_MISSING = -1, BYTES = 0, SHORTS = 1, INTS = 2;

    // What the reader sees. In a code an operator or a NAME stands as its number below 0, a NUMBER as itself.
    private static final int END = 0, WRONG = 1, NUMBER = 2, NEAR = 3, FAR = 4, OPEN = 5, CLOSE = 6, SEMICOLON = 7;
    private static final int OR = 8, AND = 9, LESS = 10, EQUAL = 11, PLUS = 12, MINUS = 13, TIMES = 14;
    private static final int NOT = 15, NEGATE = 16;
    private static final int APART = 17, SIDE = 18, HUTS = 19, HOUSES = 20, BY_LOAF = 21, RAVINES = 22;
    private static final int FIRST_NAME = APART, NAMES = 6;
    /** One value waits for each of or, and, <, +, * at each of six depths, and one is at hand. */
    private static final int DEEPEST = 5 * (MOST_OPEN + 1) + 1;

    private final Reader reader = new Reader();
    private final Texts texts = new Texts();
    private final Village village = new Village();
    private final Land land = new Land();
    private final Shapes shapes = new Shapes();
    private final People people = new People();
    private final Image kept = new Image();
    private final Sheets sheets = new Sheets();
    private final Area area = new Area();
    private final Area otherArea = new Area();
    private final int[] walked = new int[PLACES];
    private final int[] otherWalked = new int[PLACES];
    private final int[] wellPlaces = new int[MOST_WELLS];
    private int wellCount;
    private int lawNumber;
    private int loafPlace;

    public StepsBeyond() {
        for (int i = 0; i < FIRST_TEXT.length(); i++) {
            reader.append(FIRST_TEXT.charAt(i));
        }
        reader.readText();
        texts.add(reader);
        reader.clear();
        village.obey(texts.nearCodes[0], texts.farCodes[0]);
    }

    // ---- houses, towns

    public int house(int p, int hut) {
        if (!isPlace(p) || !isBit(hut)) {
            return BAD;
        }
        return village.add(p, hut);
    }

    public int hut(int h, int is) {
        if (!village.knows(h)) {
            return NONE;
        }
        if (!isBit(is)) {
            return BAD;
        }
        int was = village.huts[h];
        village.huts[h] = is;
        village.joinAll();
        return was;
    }

    public int near(int a, int b) {
        if (!village.knows(a) || !village.knows(b) || a == b) {
            return BAD;
        }
        return has(village.joined[a], b) ? 1 : 0;
    }

    public int far(int loaf) {
        if (!isBit(loaf)) {
            return BAD;
        }
        return village.farWith(loaf);
    }

    public int town(int h) {
        if (!village.knows(h)) {
            return NONE;
        }
        return village.townOf(h);
    }

    public int burn(int h) {
        if (!village.knows(h)) {
            return NONE;
        }
        return village.heldBy(h);
    }

    // ---- the law

    public int feed(long w, int n) {
        if (!isFrom(n, 1, 8)) {
            return BAD;
        }
        if (reader.length + n > MOST_BYTES) {
            return FULL;
        }
        for (int i = n - 1; i >= 0; i--) {
            reader.append((int) (w >>> (8 * i)) & 255);
        }
        return reader.length;
    }

    public int text() {
        if (texts.number >= MOST_TEXTS) {
            return FULL;
        }
        boolean sound = reader.readText();
        int answer = sound ? texts.add(reader) : FAULT - reader.at;
        reader.clear();
        return answer;
    }

    public int force(int t) {
        if (!texts.knows(t)) {
            return BAD;
        }
        int was = lawNumber;
        enforce(t);
        return was;
    }

    // ---- shapes

    public int shape(int kind, int h, int more) {
        if (!isFrom(kind, SHAPE, LOAF) || !isFrom(more, 0, MOST_MORE)) {
            return BAD;
        }
        if (!village.knows(h)) {
            return NONE;
        }
        return shapes.add(kind, h, more);
    }

    public int loaf(int p) {
        if (!isPlace(p)) {
            return BAD;
        }
        int was = loafPlace;
        loafPlace = p;
        return was;
    }

    public int shapeTold(int s, int what) {
        if (!shapes.knows(s)) {
            return NO_SUCH;
        }
        switch (what) {
            case 0:
                return shapes.kinds[s];
            case 1:
                return shapes.homes[s];
            case 2:
                return shapes.mores[s];
            case 3:
                return reachOf(s);
            case 4:
                return middleOf(s);
            default:
                return NOT_TOLD;
        }
    }

    public int within(int s, int p) {
        if (!shapes.knows(s)) {
            return NONE;
        }
        if (!isPlace(p)) {
            return BAD;
        }
        measure(area, s);
        return area.holds(p) ? 1 : 0;
    }

    public int size(int s) {
        if (!shapes.knows(s)) {
            return NONE;
        }
        measure(area, s);
        int found = 0;
        for (int p = 0; p < PLACES; p++) {
            if (area.holds(p)) {
                found++;
            }
        }
        return found;
    }

    public int both(int s, int o, int what) {
        if (!shapes.knows(s) || !shapes.knows(o)) {
            return NONE;
        }
        if (!isFrom(what, 0, 2)) {
            return BAD;
        }
        measure(area, s);
        measure(otherArea, o);
        boolean inFirst = what != 2;
        boolean inOther = what != 1;
        int found = 0;
        for (int p = 0; p < PLACES; p++) {
            if (area.holds(p) == inFirst && otherArea.holds(p) == inOther) {
                found++;
            }
        }
        return found;
    }

    public int laid(int s, int p) {
        if (!shapes.knows(s)) {
            return NONE;
        }
        if (!isPlace(p)) {
            return BAD;
        }
        if (shapes.kinds[s] != LOAF) {
            return UNLIKE;
        }
        int reach = reachOf(s);
        for (int q = 0; q < PLACES; q++) {
            area.measureLoaf(q, reach);
            if (area.holds(p)) {
                return q;
            }
        }
        return STATE;
    }

    // ---- steps, people, wells

    public int ravine(int way, int at, int from, int to, int wide) {
        boolean lies = isBit(way) && isFrom(at, 1, WIDTH - 1);
        boolean reaches = isFrom(from, 0, WIDTH - 1) && isFrom(to, from, WIDTH - 1);
        if (!lies || !reaches || !isFrom(wide, 1, MOST_WIDE)) {
            return BAD;
        }
        if (village.ravines >= MOST_RAVINES) {
            return FULL;
        }
        land.split(way, at, from, to, wide);
        village.ravines++;
        village.joinAll();
        return village.ravines;
    }

    public int steps(int p, int q) {
        if (!isPlace(p) || !isPlace(q)) {
            return BAD;
        }
        land.walkFrom(p, walked);
        return walked[q];
    }

    public int person(int p, int s) {
        if (!isPlace(p)) {
            return BAD;
        }
        if (!shapes.knows(s)) {
            return NONE;
        }
        return people.add(p, s);
    }

    public int moves(int i, int p) {
        if (!people.knows(i)) {
            return NONE;
        }
        if (!isPlace(p)) {
            return BAD;
        }
        int was = people.places[i];
        people.places[i] = p;
        return was;
    }

    public int personTold(int i, int what) {
        if (!people.knows(i)) {
            return NO_SUCH;
        }
        switch (what) {
            case 0:
                return people.places[i];
            case 1:
                return people.bounds[i];
            case 2:
                return isOut(i) ? 1 : 0;
            default:
                return NOT_TOLD;
        }
    }

    public int well(int p) {
        if (!isPlace(p)) {
            return BAD;
        }
        if (wellCount >= MOST_WELLS) {
            return FULL;
        }
        wellPlaces[wellCount] = p;
        wellCount++;
        return wellCount - 1;
    }

    public int may(int i, int p, int most) {
        if (!people.knows(i)) {
            return NO_SUCH;
        }
        if (!isPlace(p) || !isFrom(most, 0, MOST_STEPS)) {
            return NOT_TOLD;
        }
        land.walkFrom(p, walked);
        return whyNot(i, p, walked[people.places[i]], most);
    }

    public int wells(int i, int most) {
        if (!people.knows(i)) {
            return NO_SUCH;
        }
        if (!isFrom(most, 0, MOST_STEPS)) {
            return NOT_TOLD;
        }
        land.walkFrom(people.places[i], walked);
        int bits = 0;
        for (int k = 0; k < wellCount; k++) {
            int p = wellPlaces[k];
            if (whyNot(i, p, walked[p], most) == 0) {
                bits |= 1 << k;
            }
        }
        return bits;
    }

    public int who(int p, int most) {
        if (!isPlace(p) || !isFrom(most, 0, MOST_STEPS)) {
            return BAD;
        }
        // A STEP takes as much one way as the other, so one walk from the PLACE does for all.
        land.walkFrom(p, walked);
        int bits = 0;
        for (int i = 0; i < people.number; i++) {
            if (whyNot(i, p, walked[people.places[i]], most) == 0) {
                bits |= 1 << i;
            }
        }
        return bits;
    }

    public int meet(int i, int j, int what) {
        if (!people.knows(i) || !people.knows(j) || i == j) {
            return NO_SUCH;
        }
        if (!isBit(what)) {
            return NOT_TOLD;
        }
        if (isOut(i) || isOut(j)) {
            return STATE;
        }
        int p = meetingPlace(i, j);
        if (p == NONE) {
            return NONE;
        }
        return what == 0 ? p : walked[p] + otherWalked[p];
    }

    // ---- towns joined

    public int shed(int a, int b) {
        if (!village.knows(a) || !village.knows(b)) {
            return NONE;
        }
        int one = village.townOf(a);
        if (has(one, b)) {
            return STATE;
        }
        return village.shedFor(one, village.townOf(b));
    }

    public int bridge(int a, int b, int most) {
        if (!village.knows(a) || !village.knows(b)) {
            return NONE;
        }
        if (!isFrom(most, 0, MOST_NUMBER)) {
            return BAD;
        }
        return village.roundsTo(a, b, most);
    }

    public int count(int what) {
        switch (what) {
            case 0:
                return village.number;
            case 1:
                return village.countTowns();
            case 2:
                return shapes.number;
            case 3:
                return village.ravines;
            case 4:
                return people.number;
            case 5:
                return wellCount;
            case 6:
                return texts.number;
            case 7:
                return lawNumber;
            case 8:
                return reader.length;
            default:
                return BAD;
        }
    }

    public int image() {
        kept.made = true;
        kept.houseCount = village.number;
        kept.personCount = people.number;
        kept.loafPlace = loafPlace;
        kept.lawNumber = lawNumber;
        System.arraycopy(village.huts, 0, kept.huts, 0, MOST_HOUSES);
        System.arraycopy(people.places, 0, kept.places, 0, MOST_PEOPLE);
        return village.number;
    }

    public int back() {
        if (!kept.made) {
            return STATE;
        }
        System.arraycopy(kept.huts, 0, village.huts, 0, kept.houseCount);
        System.arraycopy(kept.places, 0, people.places, 0, kept.personCount);
        loafPlace = kept.loafPlace;
        enforce(kept.lawNumber);
        return village.number;
    }

    // ---- the host

    public int sheet(int s, int sort, int n) {
        if (!isSheet(s) || !isFrom(sort, ROW_MISSING, INTS)) {
            return BAD;
        }
        if (sort == ROW_MISSING) {
            sheets.renew(s, ROW_MISSING, 0);
            return 1;
        }
        if (n > MOST_CELLS) {
            return BAD;
        }
        if (n < 0) {
            return BELOW_ZERO;
        }
        sheets.renew(s, sort, n);
        return 1;
    }

    public int cell(int s, int i, int v) {
        if (!isSheet(s)) {
            return BAD;
        }
        if (sheets.isMissing(s)) {
            return NOTHING;
        }
        if (!sheets.hasRun(s, i, 1)) {
            return OUTSIDE;
        }
        sheets.put(s, i, v);
        return 1;
    }

    public int copy(int s, int i, int other, int j, int n) {
        if (!isSheet(s) || !isSheet(other)) {
            return BAD;
        }
        if (sheets.isMissing(s) || sheets.isMissing(other)) {
            return NOTHING;
        }
        if (sheets.sorts[s] != sheets.sorts[other]) {
            return UNLIKE;
        }
        if (!sheets.hasRun(s, i, n) || !sheets.hasRun(other, j, n)) {
            return OUTSIDE;
        }
        System.arraycopy(sheets.rows[s], i, sheets.rows[other], j, n);
        return n;
    }

    public int houses(int s, int sort, int at, int n) {
        if (!isSheet(s) || !isFrom(sort, BYTES, INTS) || !isFrom(n, 0, MOST_HOUSES)) {
            return BAD;
        }
        if (sheets.isMissing(s)) {
            return NOTHING;
        }
        if (sheets.sorts[s] != sort) {
            return UNLIKE;
        }
        int came = 0;
        for (int k = 0; k < n; k++) {
            // The first pair that fails ends the loop, so at + 2 * k can't wrap.
            int i = at + 2 * k;
            if (!sheets.hasRun(s, i, 2)) {
                return OUTSIDE;
            }
            if (house(sheets.rows[s][i], sheets.rows[s][i + 1]) >= 0) {
                came++;
            }
        }
        return came;
    }

    public int taken(int i, int kind) {
        if (!isFrom(kind, SHAPE, A_HOUSE)) {
            return BAD;
        }
        if (!isFrom(i, 0, MOST_HOUSES + MOST_SHAPES - 1)) {
            return OUTSIDE;
        }
        return i < MOST_HOUSES ? houseTaken(i, kind) : shapeTaken(i - MOST_HOUSES, kind);
    }

    // ---- what several calls share

    private static boolean isFrom(int number, int least, int greatest) {
        return number >= least && number <= greatest;
    }

    private static boolean isPlace(int p) {
        return isFrom(p, 0, PLACES - 1);
    }

    private static boolean isBit(int number) {
        return isFrom(number, 0, 1);
    }

    private static boolean isSheet(int s) {
        return isFrom(s, 0, SHEETS - 1);
    }

    private static boolean has(int bits, int i) {
        return (bits >> i & 1) != 0;
    }

    private static int apart(int p, int q) {
        return Math.abs(p % WIDTH - q % WIDTH) + Math.abs(p / WIDTH - q / WIDTH);
    }

    private static boolean isOfKind(int kind, int wanted) {
        int k = kind;
        for (int i = 0; i < ABOVE.length && isFrom(k, 0, ABOVE.length - 1); i++) {
            if (k == wanted) {
                return true;
            }
            k = ABOVE[k];
        }
        return false;
    }

    private void enforce(int t) {
        lawNumber = t;
        village.obey(texts.nearCodes[t], texts.farCodes[t]);
    }

    private int reachOf(int s) {
        int more = shapes.mores[s];
        switch (shapes.kinds[s]) {
            case BOW:
                return more / 2;
            case WALK:
                return more + village.farWith(0);
            case LOAF:
                return Math.max(0, more + village.farWith(1) - 1);
            default:
                return more;
        }
    }

    private int middleOf(int s) {
        return shapes.kinds[s] == LOAF ? loafPlace : village.places[shapes.homes[s]];
    }

    private void measure(Area into, int s) {
        int kind = shapes.kinds[s];
        int home = shapes.homes[s];
        if (kind == LOAF) {
            into.measureLoaf(loafPlace, reachOf(s));
            return;
        }
        into.clear(isOfKind(kind, SQUARE), reachOf(s));
        int counted = kind == SHAPE ? 1 << home : village.townOf(home);
        for (int h = 0; h < village.number; h++) {
            if (has(counted, h)) {
                into.include(village.places[h]);
            }
        }
        if (kind == BOW) {
            into.fillUpTo(2 * shapes.mores[s]);
        }
    }

    private boolean isOut(int i) {
        measure(area, people.bounds[i]);
        return !area.holds(people.places[i]);
    }

    private int whyNot(int i, int p, int taking, int most) {
        measure(area, people.bounds[i]);
        if (!area.holds(people.places[i])) {
            return apart(people.places[i], p) <= 2 ? 0 : 1;
        }
        if (!area.holds(p)) {
            return 2;
        }
        return taking > most ? 3 : 0;
    }

    private int meetingPlace(int i, int j) {
        measure(area, people.bounds[i]);
        measure(otherArea, people.bounds[j]);
        land.walkFrom(people.places[i], walked);
        land.walkFrom(people.places[j], otherWalked);
        int best = NONE;
        int fewest = 0;
        for (int p = 0; p < PLACES; p++) {
            int together = walked[p] + otherWalked[p];
            if ((best == NONE || together < fewest) && area.holds(p) && otherArea.holds(p)) {
                best = p;
                fewest = together;
            }
        }
        return best;
    }

    private int houseTaken(int h, int kind) {
        if (!village.knows(h)) {
            return NOTHING;
        }
        return kind == A_HOUSE ? village.places[h] : UNLIKE;
    }

    private int shapeTaken(int s, int kind) {
        if (!shapes.knows(s)) {
            return NOTHING;
        }
        return isOfKind(shapes.kinds[s], kind) ? s : UNLIKE;
    }

    /** HOUSES and how they are joined. */
    private static final class Village {
        private static final int NOT_LOOKED = 0, IS_NEAR = 1, IS_NOT_NEAR = 2;
        final int[] places = new int[MOST_HOUSES];
        final int[] huts = new int[MOST_HOUSES];
        /** Bit b of joined[a]: a and b are NEAR. Made anew with every change, so that it always tells of now. */
        final int[] joined = new int[MOST_HOUSES];
        final int[] looked = new int[2 * PLACES];
        final Reckoner reckoner = new Reckoner();
        int[] nearCode = new int[0];
        int[] farCode = new int[0];
        int number;
        int ravines;

        boolean knows(int h) {
            return h >= 0 && h < number;
        }

        int add(int p, int isHut) {
            if (number >= MOST_HOUSES) {
                return FULL;
            }
            places[number] = p;
            huts[number] = isHut;
            number++;
            joinAll();
            return number - 1;
        }

        void obey(int[] newNearCode, int[] newFarCode) {
            nearCode = newNearCode;
            farCode = newFarCode;
            joinAll();
        }

        void joinAll() {
            Arrays.fill(joined, 0);
            for (int a = 0; a < number; a++) {
                for (int b = 0; b < a; b++) {
                    if (areNear(places[a], huts[a], b)) {
                        joined[a] |= 1 << b;
                        joined[b] |= 1 << a;
                    }
                }
            }
        }

        private boolean areNear(int p, int isHut, int h) {
            int across = p % WIDTH - places[h] % WIDTH;
            int down = p / WIDTH - places[h] / WIDTH;
            reckoner.tellPair(across * across + down * down, Math.abs(across) + Math.abs(down), isHut + huts[h]);
            reckoner.tellAll(number, 0, ravines);
            return reckoner.worth(nearCode) != 0;
        }

        int farWith(int byLoaf) {
            reckoner.tellPair(0, 0, 0);
            reckoner.tellAll(number, byLoaf, ravines);
            return Math.max(0, Math.min(MOST_FAR, reckoner.worth(farCode)));
        }

        int townOf(int h) {
            return spreadFrom(1 << h, -1);
        }

        /** What comes together from some HOUSES on, over allowed ones alone. */
        private int spreadFrom(int start, int allowed) {
            int came = start;
            for (int round = 0; round < MOST_HOUSES; round++) {
                int grown = came;
                for (int h = 0; h < number; h++) {
                    if (has(came, h)) {
                        grown |= joined[h] & allowed;
                    }
                }
                if (grown == came) {
                    return came;
                }
                came = grown;
            }
            return came;
        }

        int heldBy(int h) {
            int whole = townOf(h);
            int bits = 0;
            for (int k = 0; k < number; k++) {
                int others = whole & ~(1 << k);
                int lowest = others & -others;
                if (has(whole, k) && spreadFrom(lowest, others) != others) {
                    bits |= 1 << k;
                }
            }
            return bits;
        }

        int countTowns() {
            int seen = 0;
            int found = 0;
            for (int h = 0; h < number; h++) {
                if (!has(seen, h)) {
                    seen |= townOf(h);
                    found++;
                }
            }
            return found;
        }

        int shedFor(int one, int another) {
            Arrays.fill(looked, NOT_LOOKED);
            for (int p = 0; p < PLACES; p++) {
                if (hutJoins(p, one) && hutJoins(p, another)) {
                    return p;
                }
            }
            return NO_SHED;
        }

        private boolean hutJoins(int p, int bits) {
            for (int h = 0; h < number; h++) {
                if (has(bits, h) && hutIsNear(p, h)) {
                    return true;
                }
            }
            return false;
        }

        /** NEAR depends on nothing but how far off a HOUSE is each way and whether it is a HUT: looked at once. */
        private boolean hutIsNear(int p, int h) {
            int across = Math.abs(p % WIDTH - places[h] % WIDTH);
            int down = Math.abs(p / WIDTH - places[h] / WIDTH);
            int i = huts[h] * PLACES + down * WIDTH + across;
            if (looked[i] == NOT_LOOKED) {
                looked[i] = areNear(p, 1, h) ? IS_NEAR : IS_NOT_NEAR;
            }
            return looked[i] == IS_NEAR;
        }

        int roundsTo(int a, int b, int most) {
            int held = townOf(a);
            for (int rounds = 0; rounds <= MOST_HOUSES; rounds++) {
                if (has(held, b)) {
                    return rounds;
                }
                int grown = heldNext(held, most);
                if (grown == held) {
                    return STATE;
                }
                held = grown;
            }
            return STATE;
        }

        private int heldNext(int held, int most) {
            int grown = held;
            for (int h = 0; h < number; h++) {
                if (!has(grown, h) && isByOne(h, held, most)) {
                    grown |= townOf(h);
                }
            }
            return grown;
        }

        private boolean isByOne(int h, int held, int most) {
            for (int k = 0; k < number; k++) {
                if (has(held, k) && apart(places[h], places[k]) <= most) {
                    return true;
                }
            }
            return false;
        }
    }

    /** TEXTS as codes: what the reader wrote, operators behind what they belong to. */
    private static final class Texts {
        final int[][] nearCodes = new int[MOST_TEXTS][0];
        final int[][] farCodes = new int[MOST_TEXTS][0];
        int number;

        boolean knows(int t) {
            return t >= 0 && t < number;
        }

        int add(Reader from) {
            if (number >= MOST_TEXTS) {
                return FULL;
            }
            nearCodes[number] = Arrays.copyOfRange(from.code, 0, from.farStart);
            farCodes[number] = Arrays.copyOfRange(from.code, from.farStart, from.written);
            number++;
            return number - 1;
        }
    }

    /** Works out codes, with a stack that every call uses again. */
    private static final class Reckoner {
        final int[] facts = new int[NAMES];
        final int[] stack = new int[DEEPEST];
        int top;

        void tellPair(int apart, int side, int huts) {
            facts[APART - FIRST_NAME] = apart;
            facts[SIDE - FIRST_NAME] = side;
            facts[HUTS - FIRST_NAME] = huts;
        }

        void tellAll(int houses, int byLoaf, int ravines) {
            facts[HOUSES - FIRST_NAME] = houses;
            facts[BY_LOAF - FIRST_NAME] = byLoaf;
            facts[RAVINES - FIRST_NAME] = ravines;
        }

        int worth(int[] code) {
            top = 0;
            for (int i = 0; i < code.length; i++) {
                int sign = -code[i];
                if (sign <= 0) {
                    push(code[i]);
                } else if (sign >= FIRST_NAME) {
                    push(sign < FIRST_NAME + NAMES ? facts[sign - FIRST_NAME] : 0);
                } else if (sign == NOT || sign == NEGATE) {
                    turnTop(sign);
                } else {
                    joinTwo(sign);
                }
            }
            return top > 0 ? stack[0] : 0;
        }

        private void push(int value) {
            if (top < DEEPEST) {
                stack[top] = value;
                top++;
            }
        }

        private void turnTop(int sign) {
            if (top < 1) {
                return;
            }
            int value = stack[top - 1];
            int truth = value == 0 ? 1 : 0;
            stack[top - 1] = sign == NEGATE ? -value : truth;
        }

        private void joinTwo(int sign) {
            if (top < 2) {
                return;
            }
            top--;
            int left = stack[top - 1];
            int right = stack[top];
            switch (sign) {
                case OR:
                    stack[top - 1] = left != 0 || right != 0 ? 1 : 0;
                    break;
                case AND:
                    stack[top - 1] = left != 0 && right != 0 ? 1 : 0;
                    break;
                case LESS:
                    stack[top - 1] = left < right ? 1 : 0;
                    break;
                case EQUAL:
                    stack[top - 1] = left == right ? 1 : 0;
                    break;
                case PLUS:
                    stack[top - 1] = left + right;
                    break;
                case MINUS:
                    stack[top - 1] = left - right;
                    break;
                default:
                    stack[top - 1] = left * right;
                    break;
            }
        }
    }

    /** THE TAPE, and how a TEXT is read from it. Each read... stops at the TOKEN that can't stand there. */
    private static final class Reader {
        final int[] tape = new int[MOST_BYTES];
        /** Every TOKEN writes one number at most. */
        final int[] code = new int[MOST_BYTES];
        int length;
        int written;
        int farStart;
        /** Where the TOKEN at hand begins: the FAULT, once reading has stopped. */
        int at;
        private int behind;
        private int token;
        private int value;

        void append(int b) {
            if (length < MOST_BYTES) {
                tape[length] = b;
                length++;
            }
        }

        void clear() {
            length = 0;
        }

        boolean readText() {
            written = 0;
            farStart = 0;
            behind = 0;
            next();
            if (!pass(NEAR) || !readOr(0) || !pass(SEMICOLON)) {
                return false;
            }
            farStart = written;
            return pass(FAR) && readOr(0) && pass(SEMICOLON) && token == END;
        }

        private boolean readOr(int open) {
            if (!readAnd(open)) {
                return false;
            }
            for (int i = 0; i < MOST_BYTES && token == OR; i++) {
                next();
                if (!readAnd(open)) {
                    return false;
                }
                write(-OR);
            }
            return true;
        }

        private boolean readAnd(int open) {
            if (!readNot(open)) {
                return false;
            }
            for (int i = 0; i < MOST_BYTES && token == AND; i++) {
                next();
                if (!readNot(open)) {
                    return false;
                }
                write(-AND);
            }
            return true;
        }

        private boolean readNot(int open) {
            if (token != NOT) {
                return readCompared(open);
            }
            if (open >= MOST_OPEN) {
                return false;
            }
            next();
            if (!readNot(open + 1)) {
                return false;
            }
            write(-NOT);
            return true;
        }

        private boolean readCompared(int open) {
            if (!readSum(open)) {
                return false;
            }
            int sign = token;
            if (sign != LESS && sign != EQUAL) {
                return true;
            }
            next();
            if (!readSum(open)) {
                return false;
            }
            write(-sign);
            return true;
        }

        private boolean readSum(int open) {
            if (!readTerm(open)) {
                return false;
            }
            for (int i = 0; i < MOST_BYTES && (token == PLUS || token == MINUS); i++) {
                int sign = token;
                next();
                if (!readTerm(open)) {
                    return false;
                }
                write(-sign);
            }
            return true;
        }

        private boolean readTerm(int open) {
            if (!readOne(open)) {
                return false;
            }
            for (int i = 0; i < MOST_BYTES && token == TIMES; i++) {
                next();
                if (!readOne(open)) {
                    return false;
                }
                write(-TIMES);
            }
            return true;
        }

        private boolean readOne(int open) {
            if (token == NUMBER) {
                write(value);
                next();
                return true;
            }
            if (token >= FIRST_NAME) {
                write(-token);
                next();
                return true;
            }
            if (open >= MOST_OPEN) {
                return false;
            }
            if (token == MINUS) {
                next();
                if (!readOne(open + 1)) {
                    return false;
                }
                write(-NEGATE);
                return true;
            }
            return pass(OPEN) && readOr(open + 1) && pass(CLOSE);
        }

        private boolean pass(int wanted) {
            if (token != wanted) {
                return false;
            }
            next();
            return true;
        }

        private void write(int number) {
            if (written < MOST_BYTES) {
                code[written] = number;
                written++;
            }
        }

        private void next() {
            at = behind;
            while (at < length && (tape[at] == ' ' || tape[at] == '\n')) {
                at++;
            }
            behind = at;
            if (at >= length) {
                token = END;
            } else if (isLetter(tape[at])) {
                takeWord();
            } else if (isDigit(tape[at])) {
                takeNumber();
            } else {
                behind = at + 1;
                token = signOf(tape[at]);
            }
        }

        private void takeWord() {
            while (behind < length && isLetter(tape[behind])) {
                behind++;
            }
            token = isHere("near") ? NEAR
                : isHere("far") ? FAR
                : isHere("or") ? OR
                : isHere("and") ? AND
                : isHere("not") ? NOT
                : isHere("apart") ? APART
                : isHere("side") ? SIDE
                : isHere("huts") ? HUTS
                : isHere("houses") ? HOUSES
                : isHere("loaf") ? BY_LOAF
                : isHere("ravines") ? RAVINES
                : WRONG;
        }

        private void takeNumber() {
            value = 0;
            while (behind < length && isDigit(tape[behind])) {
                value = value * 10 + tape[behind] - '0';
                behind++;
            }
            token = behind - at <= MOST_DIGITS ? NUMBER : WRONG;
        }

        private boolean isHere(String word) {
            if (word.length() != behind - at) {
                return false;
            }
            for (int i = 0; i < word.length(); i++) {
                if (tape[at + i] != word.charAt(i)) {
                    return false;
                }
            }
            return true;
        }

        private static int signOf(int b) {
            switch (b) {
                case '(':
                    return OPEN;
                case ')':
                    return CLOSE;
                case ';':
                    return SEMICOLON;
                case '+':
                    return PLUS;
                case '-':
                    return MINUS;
                case '*':
                    return TIMES;
                case '<':
                    return LESS;
                case '=':
                    return EQUAL;
                default:
                    return WRONG;
            }
        }

        private static boolean isLetter(int b) {
            return b >= 'a' && b <= 'z';
        }

        private static boolean isDigit(int b) {
            return b >= '0' && b <= '9';
        }
    }

    /** What a STEP takes everywhere, and the fewest STEPS from a PLACE to all. */
    private static final class Land {
        private static final int NOT_YET = 1000000000;
        /** What it takes to come to a PLACE from the WEST, and from the NORTH (or back again). */
        final int[] fromWest = new int[PLACES];
        final int[] fromNorth = new int[PLACES];

        Land() {
            Arrays.fill(fromWest, 1);
            Arrays.fill(fromNorth, 1);
        }

        void split(int way, int at, int from, int to, int wide) {
            for (int k = from; k <= to; k++) {
                if (way == 0) {
                    fromWest[k * WIDTH + at] += wide;
                } else {
                    fromNorth[at * WIDTH + k] += wide;
                }
            }
        }

        /**
         * A sweep finds all walks that never turn from SOUTH to NORTH (or never the other way), so a few of them
         * do; once a pair of them betters nothing, no STEP does, and every number is the fewest.
         */
        void walkFrom(int p, int[] walked) {
            Arrays.fill(walked, NOT_YET);
            walked[p] = 0;
            boolean better = true;
            for (int i = 0; i < PLACES && better; i++) {
                better = sweepSouth(walked);
                if (sweepNorth(walked)) {
                    better = true;
                }
            }
        }

        private boolean sweepSouth(int[] walked) {
            boolean better = sweepRow(walked, 0);
            for (int row = WIDTH; row < PLACES; row += WIDTH) {
                for (int p = row; p < row + WIDTH; p++) {
                    int taking = walked[p - WIDTH] + fromNorth[p];
                    if (taking < walked[p]) {
                        walked[p] = taking;
                        better = true;
                    }
                }
                if (sweepRow(walked, row)) {
                    better = true;
                }
            }
            return better;
        }

        private boolean sweepNorth(int[] walked) {
            boolean better = false;
            for (int row = PLACES - 2 * WIDTH; row >= 0; row -= WIDTH) {
                for (int p = row; p < row + WIDTH; p++) {
                    int taking = walked[p + WIDTH] + fromNorth[p + WIDTH];
                    if (taking < walked[p]) {
                        walked[p] = taking;
                        better = true;
                    }
                }
                if (sweepRow(walked, row)) {
                    better = true;
                }
            }
            return better;
        }

        private boolean sweepRow(int[] walked, int row) {
            boolean better = false;
            for (int p = row + 1; p < row + WIDTH; p++) {
                int taking = walked[p - 1] + fromWest[p];
                if (taking < walked[p]) {
                    walked[p] = taking;
                    better = true;
                }
            }
            for (int p = row + WIDTH - 2; p >= row; p--) {
                int taking = walked[p + 1] + fromWest[p + 1];
                if (taking < walked[p]) {
                    walked[p] = taking;
                    better = true;
                }
            }
            return better;
        }
    }

    private static final class Shapes {
        final int[] kinds = new int[MOST_SHAPES];
        final int[] homes = new int[MOST_SHAPES];
        final int[] mores = new int[MOST_SHAPES];
        int number;

        boolean knows(int s) {
            return s >= 0 && s < number;
        }

        int add(int kind, int home, int more) {
            if (number >= MOST_SHAPES) {
                return FULL;
            }
            kinds[number] = kind;
            homes[number] = home;
            mores[number] = more;
            number++;
            return number - 1;
        }
    }

    /** A SHAPE as it is now: the PLACES that count for it, and how far it reaches beyond them. */
    private static final class Area {
        final int[] counted = new int[MOST_HOUSES];
        int number;
        int reach;
        int leastX;
        int greatestX;
        int leastY;
        int greatestY;
        boolean square;
        boolean filled;

        void clear(boolean isSquare, int newReach) {
            number = 0;
            square = isSquare;
            filled = false;
            reach = newReach;
            leastX = WIDTH;
            leastY = WIDTH;
            greatestX = -1;
            greatestY = -1;
        }

        void include(int p) {
            if (number >= MOST_HOUSES) {
                return;
            }
            counted[number] = p;
            number++;
            leastX = Math.min(leastX, p % WIDTH);
            greatestX = Math.max(greatestX, p % WIDTH);
            leastY = Math.min(leastY, p / WIDTH);
            greatestY = Math.max(greatestY, p / WIDTH);
        }

        void fillUpTo(int widest) {
            filled = greatestX - leastX <= widest && greatestY - leastY <= widest;
        }

        void measureLoaf(int p, int newReach) {
            clear(true, newReach);
            include(p);
        }

        boolean holds(int p) {
            if (square) {
                return isInBox(p, reach);
            }
            return filled && isInBox(p, 0) || isByOne(p);
        }

        private boolean isInBox(int p, int beyond) {
            return isFrom(p % WIDTH, leastX - beyond, greatestX + beyond)
                && isFrom(p / WIDTH, leastY - beyond, greatestY + beyond);
        }

        private boolean isByOne(int p) {
            for (int i = 0; i < number; i++) {
                if (apart(p, counted[i]) <= reach) {
                    return true;
                }
            }
            return false;
        }
    }

    private static final class People {
        final int[] places = new int[MOST_PEOPLE];
        final int[] bounds = new int[MOST_PEOPLE];
        int number;

        boolean knows(int i) {
            return i >= 0 && i < number;
        }

        int add(int p, int s) {
            if (number >= MOST_PEOPLE) {
                return FULL;
            }
            places[number] = p;
            bounds[number] = s;
            number++;
            return number - 1;
        }
    }

    private static final class Image {
        final int[] huts = new int[MOST_HOUSES];
        final int[] places = new int[MOST_PEOPLE];
        boolean made;
        int houseCount;
        int personCount;
        int loafPlace;
        int lawNumber;
    }

    /** Rows are made once, as long as can be; a SHEET's sort and length tell what of its row there is. */
    private static final class Sheets {
        final int[][] rows = new int[SHEETS][MOST_CELLS];
        final int[] sorts = new int[SHEETS];
        final int[] lengths = new int[SHEETS];

        Sheets() {
            Arrays.fill(sorts, ROW_MISSING);
        }

        void renew(int s, int sort, int n) {
            sorts[s] = sort;
            lengths[s] = n;
            Arrays.fill(rows[s], 0);
        }

        boolean isMissing(int s) {
            return sorts[s] == ROW_MISSING;
        }

        /** Written so that nothing can wrap. */
        boolean hasRun(int s, int i, int n) {
            return i >= 0 && n >= 0 && n <= lengths[s] && i <= lengths[s] - n;
        }

        void put(int s, int i, int v) {
            rows[s][i] = sorts[s] == BYTES ? (byte) v : sorts[s] == SHORTS ? (short) v : v;
        }
    }
}
