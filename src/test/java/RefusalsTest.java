import java.util.ArrayList;
import java.util.Arrays;
import java.util.List;

/**
 * REFUSALS, of several the first one told; they change nothing. Of each call that refuses, all ways to put numbers
 * together of which at least one is refused: the answer is the first refusal that its promise tells, and the object
 * can't be told from one that was never asked.
 */
public final class RefusalsTest {
    /** A little of everything; person 0 is IN its SHAPE, 1 is OUT; sheet 3 is missing. */
    private static final String SOME = """
        house(10:10, 0) = 0
        house(30:30, 1) = 1
        shape(0, 0, 3) = 0
        shape(5, 1, 2) = 1
        person(10:10, 0) = 0
        person(30:30, 1) = 1
        ravine(0, 5, 3, 9, 7) = 1
        well(10:11) = 0
        loaf(7:7) = 0
        sheet(0, 0, 4) = 1
        sheet(1, 1, 4) = 1
        sheet(2, 2, 4) = 1
        cell(0, 0, 9) = 1
        cell(1, 1, 1) = 1
        cell(2, 2, 99) = 1
        text "near 1;far 5;" = 1
        image() = 2
        hut(0, 1) = 0
        moves(0, 11:10) = 10:10
        loaf(8:8) = 7:7
        force(1) = 0
        feed "near 1;far 7;"
        """;

    /** All of which there can't be more. */
    private static final String ALL = """
        house(10:10, 0) = 0
        house(30:30, 1) = 1..19
        shape(0, 0, 3) = 0
        shape(5, 1, 2) = 1..11
        person(10:10, 0) = 0
        person(30:30, 1) = 1..7
        ravine(0, 5, 3, 9, 7) = 1..6
        well(10:11) = 0..9
        sheet(0, 0, 4) = 1
        text "near 1;far 1;" = 1
        text "near 0;far 2;" = 2
        text "near 1;far 3;" = 3
        text "near 1;far 4;" = 4
        text "near 1;far 5;" = 5
        force(2) = 0
        """ + "feed \"near 1;far 9;" + " ".repeat(147) + "\"\n";

    private static final String PLACE = "0 1599 | BAD -1 1600 MIN MAX";
    private static final String BIT = "0 1 | BAD -1 2 MIN MAX";
    private static final String HOUSE = "0 1 | NONE -1 2 MIN MAX";
    private static final String PERSON = "0 1 | -5 -1 2 MIN MAX";
    private static final String STEPS = "0 9999 | BAD -1 10000 MIN MAX";
    private static final String SHEET = "0 | -11 3 | BAD -1 4 MIN MAX";

    private final String made;
    private final List<Integer> look;

    private RefusalsTest(String made) {
        this.made = made;
        this.look = Look.at(Script.made(made));
    }

    public static void main(String[] args) {
        RefusalsTest some = new RefusalsTest(SOME);
        some.housesAndTowns();
        some.law();
        some.shapes();
        some.ravinesAndPeople();
        some.walking();
        some.towns();
        some.sheets();
        new RefusalsTest(ALL).full();
        ofNothing();
        Due.end();
    }

    private void housesAndTowns() {
        refuses("house", "BAD FULL", "", PLACE, BIT);
        refuses("hut", "NONE BAD", "", HOUSE, BIT);
        refuses("near", "BAD", "", "0 | BAD -1 2 MIN MAX", "1 | BAD -1 2 MIN MAX");
        refuses("near", "BAD", "BAD", "0", "0");
        refuses("near", "BAD", "BAD", "1", "1");
        refuses("far", "BAD", "", BIT);
        refuses("town", "NONE", "", HOUSE);
        refuses("burn", "NONE", "", HOUSE);
    }

    private void law() {
        refuses("feed", "BAD FULL", "", "0 1 -1 MIN MAX", "1 8 | BAD -1 0 9 MIN MAX");
        refuses("force", "BAD", "", "0 1 | BAD -1 2 6 MIN MAX");
    }

    private void shapes() {
        refuses("shape", "BAD NONE FULL", "", "0 5 | BAD -1 6 MIN MAX", HOUSE, "0 30 | BAD -1 31 MIN MAX");
        refuses("loaf", "BAD", "", PLACE);
        refuses("shapeTold", "-5 -7", "", PERSON, "0 4 | -7 -1 5 MIN MAX");
        refuses("within", "NONE BAD", "", HOUSE, PLACE);
        refuses("size", "NONE", "", HOUSE);
        refuses("both", "NONE BAD", "", HOUSE, HOUSE, "0 2 | BAD -1 3 MIN MAX");
        refuses("laid", "NONE BAD -13", "", "1 | -13 0 | NONE -1 2 MIN MAX", PLACE);
    }

    private void ravinesAndPeople() {
        String along = "7 | BAD -1 40 MIN MAX";
        refuses("ravine", "BAD FULL", "", "0 | BAD -1 2", "1 39 | BAD 0 40", along, "7 39 | BAD 6 40", "1 | BAD 0 100");
        refuses("ravine", "BAD FULL", "", BIT, "1 | BAD MIN MAX", along, "7 | BAD MIN MAX", "99 | BAD MIN MAX");
        refuses("steps", "BAD", "", PLACE, PLACE);
        refuses("person", "BAD NONE FULL", "", PLACE, HOUSE);
        refuses("moves", "NONE BAD", "", HOUSE, PLACE);
        refuses("personTold", "-5 -7", "", PERSON, "0 2 | -7 -1 3 MIN MAX");
        refuses("well", "BAD FULL", "", PLACE);
    }

    private void walking() {
        refuses("may", "-5 -7", "", PERSON, PLACE.replace("BAD", "-7"), STEPS.replace("BAD", "-7"));
        refuses("wells", "-5 -7", "", PERSON, STEPS.replace("BAD", "-7"));
        refuses("who", "BAD", "", PLACE, STEPS);
        String what = "0 1 | -7 -1 2 MIN MAX";
        // person 1 is OUT, so each of these is STATE at least
        refuses("meet", "-5 -7 STATE NONE", "STATE", "0 | -5 -1 2 MIN MAX", "1 | -5 -1 2 MIN MAX", what);
        refuses("meet", "-5 -7 STATE NONE", "STATE", "1 | -5 -1 2 MIN MAX", "0 | -5 -1 2 MIN MAX", what);
        refuses("meet", "-5 -7 STATE NONE", "-5", "0", "0", what);
        refuses("meet", "-5 -7 STATE NONE", "-5", "1", "1", what);
    }

    private void towns() {
        refuses("shed", "NONE STATE -6", "STATE", HOUSE, HOUSE);
        refuses("bridge", "NONE BAD STATE", "", HOUSE, HOUSE, "0 80 | BAD -1 81 MIN MAX");
        refuses("count", "BAD", "", "0 8 | BAD -1 9 MIN MAX");
    }

    private void sheets() {
        String sheet = "0 3 | BAD -1 4 MIN MAX";
        refuses("sheet", "BAD -14", "", sheet, "0 2 | BAD -2 3 MIN MAX", "0 40 | BAD 41 MAX | -14 -1 MIN");
        refuses("sheet", "BAD -14", "", "0 3 | BAD -1 4", "-1 | BAD -2 3", "-1 0 40 41 MIN MAX");
        refuses("cell", "BAD -11 -12", "", SHEET, "0 3 | -12 -1 4 MIN MAX", "0 1 MIN MAX");
        String run = "0 | -12 -1 5 MIN MAX";
        String n = "1 | -12 -1 5 MIN MAX";
        refuses("copy", "BAD -11 -13 -12", "", "0 | -11 3 | BAD -1 4", run, "0 | -13 1 2 | -11 3 | BAD -1 4", run, n);
        refuses("copy", "BAD -11 -13 -12", "", "1 | -11 3 | BAD -1 4", "0 | -12 5", "1 | -13 0 2 | BAD MIN MAX", run,
            n);
        refuses("houses", "BAD -11 -13 -12", "", SHEET, "0 | -13 1 2 | BAD -1 3 MIN MAX",
            "0 | -12 -1 3 4 MIN MAX", "1 2 | BAD -1 21 MIN MAX");
        refuses("taken", "BAD -12 -11 -13", "", "0 1 | -11 2 19 22 31 | -12 -1 32 MIN MAX",
            "6 | -13 0 5 | BAD -1 7 MIN MAX");
        refuses("taken", "BAD -12 -11 -13", "", "20 | -11 2 19 22 31 | -12 -1 32", "0 | -13 1 5 6 | BAD -1 7");
        refuses("taken", "BAD -12 -11 -13", "", "21 | -11 2 19 22 31 | -12 -1 32", "0 1 2 4 5 | -13 3 6 | BAD -1 7");
    }

    private void full() {
        String house = "0 19 | NONE -1 20 MIN MAX";
        refuses("house", "BAD FULL", "FULL", PLACE, BIT);
        refuses("feed", "BAD FULL", "FULL", "0 1 -1 MIN MAX", "1 8 | BAD -1 0 9 MIN MAX");
        refuses("text", "FULL", "FULL");
        refuses("force", "BAD", "", "5 | BAD -1 6 MIN MAX");
        refuses("shape", "BAD NONE FULL", "FULL", "0 5 | BAD -1 6", house, "0 30 | BAD -1 31");
        refuses("ravine", "BAD FULL", "FULL", "0 1 | BAD -1 2", "1 39 | BAD 0 40", "0 | BAD -1 40", "0 39 | BAD 40",
            "1 99 | BAD 0 100");
        refuses("person", "BAD NONE FULL", "FULL", PLACE, "0 11 | NONE -1 12 MIN MAX");
        refuses("well", "BAD FULL", "FULL", PLACE);
        refuses("hut", "NONE BAD", "", house, BIT);
        refuses("moves", "NONE BAD", "", "0 7 | NONE -1 8 MIN MAX", PLACE);
        refuses("meet", "-5 -7 STATE NONE", "STATE", "0 7 | -5 -1 8", "1 | -5 -1 8", "0 | -7 2");
    }

    /** What refuses because nothing is there does so ahead of what is wrong besides, as its promise tells. */
    private static void ofNothing() {
        RefusalsTest nothing = new RefusalsTest("");
        String any = "-1 0 1 MIN MAX";
        nothing.refuses("hut", "NONE", "NONE", any, any);
        nothing.refuses("near", "BAD", "BAD", any, any);
        nothing.refuses("town", "NONE", "NONE", any);
        nothing.refuses("burn", "NONE", "NONE", any);
        nothing.refuses("shape", "BAD NONE", "NONE", "0 5 | BAD -1 6", any, "0 30 | BAD -1 31");
        nothing.refuses("shapeTold", "-5", "-5", any, any);
        nothing.refuses("within", "NONE", "NONE", any, any);
        nothing.refuses("size", "NONE", "NONE", any);
        nothing.refuses("both", "NONE", "NONE", any, any, any);
        nothing.refuses("laid", "NONE", "NONE", any, any);
        nothing.refuses("person", "BAD NONE", "NONE", PLACE, any);
        nothing.refuses("moves", "NONE", "NONE", any, any);
        nothing.refuses("personTold", "-5", "-5", any, any);
        nothing.refuses("may", "-5", "-5", any, any, any);
        nothing.refuses("wells", "-5", "-5", any, any);
        nothing.refuses("meet", "-5", "-5", any, any, any);
        nothing.refuses("shed", "NONE", "NONE", any, any);
        nothing.refuses("bridge", "NONE", "NONE", any, any, any);
        nothing.refuses("back", "STATE", "STATE");
        nothing.refuses("cell", "BAD -11", "-11", "0 3 | BAD -1 4", any, any);
        nothing.refuses("copy", "BAD -11", "-11", "0 3 | BAD -1 4", any, "0 3 | BAD -1 4", any, any);
        nothing.refuses("houses", "BAD -11", "-11", "0 3 | BAD -1 4", "0 2 | BAD -1 3", any, "0 20 | BAD -1 21");
        nothing.refuses("taken", "BAD -12 -11", "-11", "0 19 20 31 | -12 -1 32", "0 6 | BAD -1 7");
    }

    /**
     * told: the refusals in their order; always: the one that this state brings in any case, or none. Of each
     * parameter: numbers that are taken, and behind each | a refusal and the numbers that bring it.
     */
    private void refuses(String call, String told, String always, String... parameters) {
        put(call, Arrays.asList(told.split(" ")), always, parameters, new ArrayList<>(), new ArrayList<>());
    }

    private void put(String call, List<String> told, String always, String[] parameters, List<String> numbers,
            List<String> refusals) {
        int k = numbers.size();
        if (k == parameters.length) {
            ask(call, told, always, numbers, refusals);
            return;
        }
        String[] groups = parameters[k].split("\\|");
        for (int g = 0; g < groups.length; g++) {
            String[] words = groups[g].trim().split(" ");
            for (int w = g == 0 ? 0 : 1; w < words.length; w++) {
                numbers.add(words[w]);
                refusals.add(g == 0 ? "" : words[0]);
                put(call, told, always, parameters, numbers, refusals);
                numbers.remove(k);
                refusals.remove(k);
            }
        }
    }

    private void ask(String call, List<String> told, String always, List<String> numbers, List<String> refusals) {
        String due = null;
        for (String refusal : told) {
            if (due == null && (always.equals(refusal) || refusals.contains(refusal))) {
                due = refusal;
            }
        }
        if (due == null) {
            return;
        }
        String title = call + numbers;
        StepsBeyond x = Script.made(made);
        Object[] args = Script.argsOf(call, String.join(",", numbers));
        Due.is(title, Script.answer(x, call, args), Script.numberOf(due));
        Due.holds(title + " changes nothing", Look.at(x).equals(look));
    }
}
