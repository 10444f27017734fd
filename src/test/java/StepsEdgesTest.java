/** The boundary cases of promises 18 to 27 and of what section 3 says of STEPS, RAVINES, PEOPLE, WHY, WELLS. */
public final class StepsEdgesTest {
    public static void main(String[] args) {
        ravine();
        ravinesFull();
        betweenColumns();
        betweenRows();
        oneByOne();
        steps();
        theMost();
        windingWays();
        person();
        peopleFull();
        moves();
        personTold();
        outOfEachKind();
        well();
        may();
        mayOfOneThatIsOut();
        mayOverRavines();
        wells();
        who();
        meet();
        meetRefused();
        meetAmongLikeOnes();
        meetAnywhere();
        Due.end();
    }

    private static void ravine() {
        Script.run("18: at 1 .. 39, from .. to 0 .. 39, WIDE 1 .. 99. BAD", """
            ravine(-1, 1, 0, 0, 1) = BAD
            ravine(2, 1, 0, 0, 1) = BAD
            ravine(MIN, 1, 0, 0, 1) = BAD
            ravine(MAX, 1, 0, 0, 1) = BAD
            ravine(0, 0, 0, 0, 1) = BAD
            ravine(1, 0, 0, 0, 1) = BAD
            ravine(0, 40, 0, 0, 1) = BAD
            ravine(1, 40, 0, 0, 1) = BAD
            ravine(0, MIN, 0, 0, 1) = BAD
            ravine(0, MAX, 0, 0, 1) = BAD
            ravine(0, -1, 0, 0, 1) = BAD
            ravine(0, 1, -1, 0, 1) = BAD
            ravine(0, 1, -1, -1, 1) = BAD
            ravine(0, 1, 40, 40, 1) = BAD
            ravine(0, 1, MIN, 0, 1) = BAD
            ravine(0, 1, MAX, 0, 1) = BAD
            ravine(0, 1, 0, 40, 1) = BAD
            ravine(0, 1, 0, -1, 1) = BAD
            ravine(0, 1, 0, MIN, 1) = BAD
            ravine(0, 1, 0, MAX, 1) = BAD
            ravine(0, 1, MIN, MAX, 1) = BAD
            ravine(0, 1, 1, 0, 1) = BAD     # from .. to
            ravine(0, 1, 39, 38, 1) = BAD
            ravine(0, 1, 39, 0, 1) = BAD
            ravine(0, 1, 0, 0, 0) = BAD
            ravine(0, 1, 0, 0, 100) = BAD
            ravine(0, 1, 0, 0, -1) = BAD
            ravine(0, 1, 0, 0, MIN) = BAD
            ravine(0, 1, 0, 0, MAX) = BAD
            count(3) = 0
            steps(0, 1) = 1
            ravine(0, 1, 0, 0, 1) = 1
            ravine(1, 39, 39, 39, 99) = 2
            ravine(0, 39, 0, 39, 99) = 3
            ravine(1, 1, 38, 39, 1) = 4
            count(3) = 4
            """);
    }

    private static void ravinesFull() {
        Script.run("18: RAVINES (6 at most). FULL.", """
            ravine(0, 20, 0, 39, 1) = 1..5
            count(3) = 5
            steps(819, 820) = 6
            ravine(0, 20, 0, 39, 100) = BAD
            ravine(0, 20, 0, 39, 1) = 6
            ravine(0, 20, 0, 39, 1) = FULL
            ravine(1, 20, 0, 39, 99) = FULL
            ravine(0, 20, 0, 39, 100) = BAD    # ahead of FULL
            ravine(2, 20, 0, 39, 1) = BAD
            count(3) = 6
            steps(819, 820) = 7
            steps(780, 820) = 1
            """);
    }

    private static void betweenColumns() {
        Script.run("way 0: between x = at - 1 and x = at, for y from one to another one", """
            ravine(0, 20, 10, 29, 50) = 1
            steps(19:20, 20:20) = 21      # round by y 30: 10 down, 1, 10 up
            ravine(0, 20, 0, 9, 50) = 2
            ravine(0, 20, 30, 39, 50) = 3
            steps(19:20, 20:20) = 51
            steps(20:20, 19:20) = 51
            steps(19:9, 20:9) = 51
            steps(19:10, 20:10) = 51
            steps(19:0, 20:0) = 51
            steps(19:39, 20:39) = 51
            steps(18:20, 19:20) = 1
            steps(20:20, 21:20) = 1
            steps(19:20, 19:21) = 1
            steps(20:19, 20:20) = 1
            steps(0:0, 39:0) = 89
            """);
        Script.run("way 0: the ends of a RAVINE", """
            ravine(0, 1, 0, 0, 9) = 1
            steps(0:0, 1:0) = 3           # round below
            ravine(0, 39, 39, 39, 9) = 2
            steps(38:39, 39:39) = 3       # round above
            ravine(0, 20, 5, 7, 9) = 3
            steps(19:4, 20:4) = 1
            steps(19:5, 20:5) = 3
            steps(19:6, 20:6) = 5
            steps(19:7, 20:7) = 3
            steps(19:8, 20:8) = 1
            """);
    }

    private static void betweenRows() {
        Script.run("way 1: between y = at - 1 and y = at, for x from one to another one", """
            ravine(1, 20, 10, 29, 50) = 1
            steps(20:19, 20:20) = 21
            ravine(1, 20, 0, 9, 50) = 2
            ravine(1, 20, 30, 39, 50) = 3
            steps(20:19, 20:20) = 51
            steps(20:20, 20:19) = 51
            steps(9:19, 9:20) = 51
            steps(10:19, 10:20) = 51
            steps(0:19, 0:20) = 51
            steps(39:19, 39:20) = 51
            steps(20:18, 20:19) = 1
            steps(20:20, 20:21) = 1
            steps(19:20, 20:20) = 1
            steps(19:19, 20:19) = 1
            steps(0:0, 0:39) = 89
            """);
        Script.run("way 1: the ends of a RAVINE", """
            ravine(1, 1, 0, 0, 9) = 1
            steps(0:0, 0:1) = 3
            ravine(1, 39, 39, 39, 9) = 2
            steps(39:38, 39:39) = 3
            ravine(1, 20, 5, 7, 9) = 3
            steps(4:19, 4:20) = 1
            steps(5:19, 5:20) = 3
            steps(6:19, 6:20) = 5
            steps(7:19, 7:20) = 3
            steps(8:19, 8:20) = 1
            """);
    }

    private static void oneByOne() {
        Script.run("as many more as all RAVINES there are WIDE", """
            ravine(0, 1, 0, 39, 1) = 1
            steps(0, 1) = 2
            ravine(0, 1, 0, 20, 99) = 2
            steps(0:21, 1:21) = 2
            steps(0:20, 1:20) = 4         # round by 21
            steps(0:0, 1:0) = 44
            ravine(0, 1, 21, 39, 99) = 3
            steps(0:0, 1:0) = 101
            ravine(0, 2, 0, 39, 3) = 4
            steps(0:0, 2:0) = 105
            ravine(1, 1, 0, 39, 5) = 5
            steps(0:0, 2:1) = 111
            steps(0:0, 0:1) = 6
            """);
    }

    private static void steps() {
        Script.run("19: The fewest STEPS. BAD.", """
            steps(-1, 0) = BAD
            steps(0, -1) = BAD
            steps(1600, 0) = BAD
            steps(0, 1600) = BAD
            steps(MIN, 0) = BAD
            steps(0, MAX) = BAD
            steps(-1, 1600) = BAD
            steps(0, 0) = 0
            steps(1599, 1599) = 0
            steps(0, 1599) = 78
            steps(1599, 0) = 78
            steps(39, 1560) = 78
            steps(0, 1) = 1
            steps(0, 40) = 1
            steps(39, 40) = 40
            steps(1559, 1560) = 40
            """);
    }

    private static void theMost() {
        Script.run("Six RAVINES of 99 on the way: 78 and 594.", """
            ravine(0, 1, 0, 39, 99) = 1
            ravine(0, 39, 0, 39, 99) = 2
            ravine(0, 20, 0, 39, 99) = 3
            ravine(1, 1, 0, 39, 99) = 4
            ravine(1, 39, 0, 39, 99) = 5
            ravine(1, 20, 0, 39, 99) = 6
            steps(0, 1599) = 672
            steps(1599, 0) = 672
            steps(39, 1560) = 672
            steps(0, 0) = 0
            house(0, 0) = 0
            shape(2, 0, 30) = 0
            shape(4, 0, 30) = 1
            person(0, 1) = 0
            may(0, 1599, 671) = 3
            may(0, 1599, 672) = 0
            """);
    }

    /** Ways that turn as often as six RAVINES let them, each way, and a way that winds inwards and out again. */
    private static void windingWays() {
        for (int way = 0; way < 2; way++) {
            String far = way == 1 ? "0:39" : "39:0";
            Script.run("The fewest: to and fro between RAVINES", """
                ravine(%1$d, 5, 0, 37, 99) = 1
                ravine(%1$d, 10, 2, 39, 99) = 2
                ravine(%1$d, 15, 0, 37, 99) = 3
                ravine(%1$d, 20, 2, 39, 99) = 4
                ravine(%1$d, 25, 0, 37, 99) = 5
                ravine(%1$d, 30, 2, 39, 99) = 6
                steps(0:0, %2$s) = 263
                steps(%2$s, 0:0) = 263
                steps(39:39, 0:0) = 300
                steps(0:0, 39:39) = 300
                """.formatted(way, far));
        }
        Script.run("The fewest: out of a winding yard", """
            ravine(0, 18, 18, 22, 99) = 1
            ravine(1, 18, 18, 24, 99) = 2
            ravine(0, 25, 18, 26, 99) = 3
            ravine(1, 27, 14, 24, 99) = 4
            ravine(0, 14, 14, 26, 99) = 5
            ravine(1, 23, 18, 22, 99) = 6
            steps(20:20, 13:20) = 33      # 23:23, 17:23, 17:13, 13:13
            steps(13:20, 20:20) = 33
            steps(20:20, 20:23) = 9
            steps(20:23, 20:20) = 9
            """);
    }

    private static void person() {
        Script.run("20: BAD; NONE", """
            person(1600, 0) = BAD         # ahead of NONE
            person(0, 0) = NONE
            house(0, 0) = 0
            person(0, 0) = NONE
            shape(0, 0, 0) = 0
            person(-1, 0) = BAD
            person(1600, 0) = BAD
            person(MIN, 0) = BAD
            person(MAX, 0) = BAD
            person(-1, 1) = BAD
            person(0, -1) = NONE
            person(0, 1) = NONE
            person(0, MIN) = NONE
            person(0, MAX) = NONE
            count(4) = 0
            person(0, 0) = 0
            person(1599, 0) = 1
            person(0, 0) = 2
            personTold(0, 0) = 0
            personTold(1, 0) = 1599
            personTold(2, 1) = 0
            personTold(3, 0) = -5
            """);
    }

    private static void peopleFull() {
        Script.run("20: PEOPLE, 8 at most. FULL.", """
            house(0, 0) = 0
            shape(0, 0, 0) = 0
            person(0, 0) = 0..6
            count(4) = 7
            moves(7, 0) = NONE
            person(1599, 0) = 7
            person(0, 0) = FULL
            person(-1, 0) = BAD           # ahead of FULL
            person(0, 1) = NONE           # ahead of FULL
            count(4) = 8
            personTold(7, 0) = 1599
            personTold(8, 0) = -5
            who(0, 0) = 127
            moves(7, 0) = 1599
            who(0, 0) = 255
            """);
    }

    private static void moves() {
        Script.run("21: where it was. NONE; BAD.", """
            moves(0, 0) = NONE
            house(0, 0) = 0
            shape(0, 0, 0) = 0
            person(5, 0) = 0
            moves(1, 0) = NONE
            moves(-1, 0) = NONE
            moves(MIN, 0) = NONE
            moves(MAX, 0) = NONE
            moves(1, 1600) = NONE         # ahead of BAD
            moves(0, -1) = BAD
            moves(0, 1600) = BAD
            moves(0, MIN) = BAD
            moves(0, MAX) = BAD
            personTold(0, 0) = 5
            moves(0, 1599) = 5
            moves(0, 1599) = 1599
            moves(0, 0) = 1599
            personTold(0, 0) = 0
            personTold(0, 1) = 0
            """);
    }

    private static void personTold() {
        Script.run("22: -5: no such one; -7: what.", """
            personTold(0, 3) = -5         # ahead of -7
            house(820, 0) = 0
            shape(0, 0, 0) = 0
            shape(0, 0, 1) = 1
            person(821, 1) = 0
            person(821, 0) = 1
            personTold(2, 0) = -5
            personTold(-1, 0) = -5
            personTold(MIN, 0) = -5
            personTold(MAX, 3) = -5
            personTold(0, -1) = -7
            personTold(0, 3) = -7
            personTold(0, MIN) = -7
            personTold(0, MAX) = -7
            personTold(0, 0) = 821
            personTold(0, 1) = 1
            personTold(0, 2) = 0
            personTold(1, 1) = 0
            personTold(1, 2) = 1
            moves(1, 820) = 821
            personTold(1, 2) = 0
            """);
    }

    private static void outOfEachKind() {
        Script.run("OUT (its PLACE isn't IN its SHAPE): by each KIND's REACH, as it is now", """
            house(10:10, 0) = 0
            shape(0, 0, 4) = 0
            shape(1, 0, 4) = 1
            shape(2, 0, 4) = 2
            shape(3, 0, 4) = 3
            shape(4, 0, 4) = 4
            shape(5, 0, 4) = 5
            person(14:10, 0) = 0
            person(14:10, 1) = 1
            person(14:14, 2) = 2
            person(12:10, 3) = 3
            person(26:26, 4) = 4
            person(11:11, 5) = 5
            personTold(0, 2) = 0
            personTold(1, 2) = 0
            personTold(2, 2) = 0
            personTold(3, 2) = 0
            personTold(4, 2) = 0
            personTold(5, 2) = 0
            moves(0, 15:10) = 14:10
            moves(1, 14:11) = 14:10
            moves(2, 15:14) = 14:14
            moves(3, 12:11) = 12:10
            moves(4, 26:27) = 26:26
            moves(5, 12:11) = 11:11
            personTold(0, 2) = 1
            personTold(1, 2) = 1
            personTold(2, 2) = 1
            personTold(3, 2) = 1
            personTold(4, 2) = 1
            personTold(5, 2) = 1
            loaf(1) = 0
            personTold(5, 2) = 0
            house(12:12, 0) = 1
            personTold(0, 2) = 1
            personTold(1, 2) = 0
            personTold(2, 2) = 0
            personTold(3, 2) = 0
            personTold(4, 2) = 0
            """);
    }

    private static void well() {
        Script.run("23: BAD", """
            well(-1) = BAD
            well(1600) = BAD
            well(MIN) = BAD
            well(MAX) = BAD
            count(5) = 0
            well(0) = 0
            well(1599) = 1
            well(1599) = 2
            count(5) = 3
            """);
        Script.run("23: WELLS (10 at most). FULL.", """
            house(0, 0) = 0
            shape(0, 0, 0) = 0
            person(0, 0) = 0
            well(1599) = 0..8
            count(5) = 9
            wells(0, 9999) = 0
            well(0) = 9
            well(0) = FULL
            well(1599) = FULL
            well(1600) = BAD              # ahead of FULL
            well(-1) = BAD
            count(5) = 10
            wells(0, 9999) = 512
            moves(0, 1599) = 0
            wells(0, 9999) = 511
            """);
    }

    private static void may() {
        Script.run("24: in so many STEPS (0 .. 9999). -5: no such one; -7: PLACE, STEPS.", """
            may(0, -1, -1) = -5           # ahead of -7
            house(20:20, 0) = 0
            shape(0, 0, 3) = 0
            person(20:20, 0) = 0
            may(1, 0, 0) = -5
            may(-1, 0, 0) = -5
            may(MIN, 0, 0) = -5
            may(MAX, 1600, 10000) = -5
            may(0, -1, 0) = -7
            may(0, 1600, 0) = -7
            may(0, MIN, 0) = -7
            may(0, MAX, 0) = -7
            may(0, 0, -1) = -7
            may(0, 0, 10000) = -7
            may(0, 0, MIN) = -7
            may(0, 0, MAX) = -7
            may(0, 20:20, 0) = 0
            may(0, 20:20, 9999) = 0
            may(0, 21:20, 0) = 3
            may(0, 21:20, 1) = 0
            may(0, 23:20, 2) = 3
            may(0, 23:20, 3) = 0
            may(0, 24:20, 9999) = 2
            may(0, 24:20, 0) = 2          # ahead of 3
            may(0, 22:22, 9999) = 2
            may(0, 0, 9999) = 2
            may(0, 1599, 0) = 2
            """);
    }

    private static void mayOfOneThatIsOut() {
        Script.run("one that is OUT: 0, if that is 2 APART at most; else 1", """
            house(20:20, 0) = 0
            shape(0, 0, 3) = 0
            ravine(0, 31, 0, 39, 99) = 1
            person(30:30, 0) = 0
            personTold(0, 2) = 1
            may(0, 30:30, 0) = 0
            may(0, 31:30, 0) = 0          # however many STEPS
            may(0, 32:30, 0) = 0
            may(0, 31:31, 0) = 0
            may(0, 29:29, 0) = 0
            may(0, 30:32, 0) = 0
            may(0, 30:28, 9999) = 0
            may(0, 33:30, 9999) = 1
            may(0, 32:31, 9999) = 1
            may(0, 30:33, 9999) = 1
            may(0, 30:27, 9999) = 1
            may(0, 27:30, 0) = 1
            may(0, 20:20, 9999) = 1       # IN its SHAPE, and yet
            moves(0, 24:20) = 30:30
            may(0, 22:20, 0) = 0          # IN its SHAPE, 2 APART
            may(0, 21:20, 9999) = 1
            moves(0, 23:20) = 24:20
            may(0, 21:20, 1) = 3          # not OUT any more
            may(0, 21:20, 2) = 0
            moves(0, 39:5) = 23:20
            may(0, 0:6, 0) = 1            # of two rows
            """);
    }

    private static void mayOverRavines() {
        Script.run("3 it takes more STEPS: over RAVINES, or round them (anywhere)", """
            house(20:20, 0) = 0
            shape(0, 0, 2) = 0
            person(20:20, 0) = 0
            ravine(0, 21, 10, 30, 15) = 1
            may(0, 21:20, 15) = 3
            may(0, 21:20, 16) = 0
            ravine(0, 21, 10, 30, 99) = 2
            may(0, 21:20, 22) = 3         # round by y 9 or 31, outside its SHAPE
            may(0, 21:20, 23) = 0
            who(21:20, 22) = 0
            who(21:20, 23) = 1
            well(21:20) = 0
            wells(0, 22) = 0
            wells(0, 23) = 1
            """);
    }

    private static void wells() {
        Script.run("25: -5; -7.", """
            wells(0, -1) = -5             # ahead of -7
            house(20:20, 0) = 0
            shape(0, 0, 3) = 0
            person(20:20, 0) = 0
            wells(0, 9999) = 0            # no WELLS
            wells(1, 0) = -5
            wells(-1, 0) = -5
            wells(MIN, 0) = -5
            wells(MAX, 10000) = -5
            wells(0, -1) = -7
            wells(0, 10000) = -7
            wells(0, MIN) = -7
            wells(0, MAX) = -7
            well(20:20) = 0
            well(23:20) = 1
            well(24:20) = 2
            well(20:21) = 3
            well(20:20) = 4
            wells(0, 0) = 17
            wells(0, 1) = 25
            wells(0, 2) = 25
            wells(0, 3) = 27
            wells(0, 9999) = 27
            moves(0, 25:20) = 20:20
            wells(0, 0) = 6               # OUT: 2 APART at most
            wells(0, 9999) = 6
            """);
        Script.run("25: WELLS (bits): all ten", """
            house(0, 0) = 0
            shape(0, 0, 0) = 0
            person(0, 0) = 0
            well(0) = 0..9
            wells(0, 0) = 1023
            """);
    }

    private static void who() {
        Script.run("26: BAD.", """
            who(-1, 0) = BAD
            who(1600, 0) = BAD
            who(MIN, 0) = BAD
            who(MAX, 0) = BAD
            who(0, -1) = BAD
            who(0, 10000) = BAD
            who(0, MIN) = BAD
            who(0, MAX) = BAD
            who(1600, 10000) = BAD
            who(0, 0) = 0
            who(1599, 9999) = 0
            house(20:20, 0) = 0
            shape(0, 0, 3) = 0
            person(20:20, 0) = 0
            person(23:20, 0) = 1
            person(24:20, 0) = 2
            who(20:20, 0) = 1
            who(20:20, 2) = 1
            who(20:20, 3) = 3
            who(20:20, 9999) = 3
            who(22:20, 0) = 4
            who(22:20, 1) = 6
            who(22:20, 2) = 7
            who(24:20, 9999) = 4          # beyond the SHAPE
            who(26:20, 0) = 4
            who(27:20, 0) = 0
            who(1599, 9999) = 0
            """);
    }

    private static void meet() {
        Script.run("27: what 0 that, 1 these STEPS. -5: no such ones, alike; -7: what", """
            meet(0, 1, 2) = -5            # ahead of -7
            house(20:20, 0) = 0
            shape(0, 0, 3) = 0
            person(20:20, 0) = 0
            meet(0, 0, 0) = -5
            meet(0, 1, 0) = -5
            meet(1, 0, 0) = -5
            person(23:20, 0) = 1
            meet(0, 0, 0) = -5
            meet(1, 1, 2) = -5
            meet(0, 2, 0) = -5
            meet(2, 0, 0) = -5
            meet(2, 2, 0) = -5
            meet(-1, 0, 0) = -5
            meet(0, -1, 0) = -5
            meet(MIN, 0, 0) = -5
            meet(0, MAX, 5) = -5
            meet(0, 1, -1) = -7
            meet(0, 1, 2) = -7
            meet(0, 1, MIN) = -7
            meet(0, 1, MAX) = -7
            meet(0, 1, 0) = 20:20
            meet(1, 0, 0) = 20:20
            meet(0, 1, 1) = 3
            meet(1, 0, 1) = 3
            """);
    }

    private static void meetRefused() {
        Script.run("27: STATE: one is OUT; NONE: there is none.", """
            house(10:10, 0) = 0
            house(30:30, 0) = 1
            shape(0, 0, 3) = 0
            shape(0, 1, 3) = 1
            person(10:10, 0) = 0
            person(30:30, 1) = 1
            person(14:10, 0) = 2
            person(30:34, 1) = 3
            meet(0, 1, 0) = NONE
            meet(1, 0, 1) = NONE
            meet(0, 2, 0) = STATE
            meet(2, 0, 1) = STATE
            meet(2, 3, 0) = STATE         # both, and there is none
            meet(0, 3, 0) = STATE         # ahead of NONE
            meet(0, 2, 2) = -7            # ahead of STATE
            meet(0, 1, 2) = -7            # ahead of NONE
            meet(2, 2, 0) = -5
            moves(2, 13:10) = 14:10
            meet(0, 2, 0) = 10:10
            meet(0, 2, 1) = 3
            """);
    }

    private static void meetAmongLikeOnes() {
        Script.run("27: of like ones the least", """
            house(20:20, 0) = 0
            shape(2, 0, 3) = 0
            person(19:21, 0) = 0
            person(21:19, 0) = 1
            meet(0, 1, 0) = 19:19
            meet(0, 1, 1) = 4
            moves(0, 20:20) = 19:21
            moves(1, 20:20) = 21:19
            meet(0, 1, 0) = 20:20
            meet(0, 1, 1) = 0
            moves(1, 20:19) = 20:20
            meet(0, 1, 0) = 20:19
            meet(0, 1, 1) = 1
            """);
        Script.run("27: at the first and at the last PLACE", """
            house(0, 0) = 0
            house(1599, 0) = 1
            shape(0, 0, 1) = 0
            shape(0, 1, 0) = 1
            person(0, 0) = 0
            person(1, 0) = 1
            person(1599, 1) = 2
            person(1599, 1) = 3
            meet(0, 1, 0) = 0
            meet(0, 1, 1) = 1
            meet(2, 3, 0) = 1599
            meet(2, 3, 1) = 0
            """);
        Script.run("27: IN both SHAPES, though others take fewer", """
            house(10:20, 0) = 0
            house(20:20, 0) = 1
            shape(0, 0, 5) = 0
            shape(0, 1, 5) = 1
            person(10:15, 0) = 0
            person(20:15, 1) = 1
            meet(0, 1, 0) = 15:20         # the one PLACE IN both
            meet(0, 1, 1) = 20
            """);
    }

    private static void meetAnywhere() {
        Script.run("27: STEPS (anywhere): round a RAVINE, outside both SHAPES", """
            house(20:20, 0) = 0
            shape(0, 0, 1) = 0
            person(20:20, 0) = 0
            person(21:20, 0) = 1
            ravine(0, 21, 15, 25, 99) = 1
            meet(0, 1, 0) = 20:19
            meet(0, 1, 1) = 13
            ravine(1, 20, 20, 20, 9) = 2
            meet(0, 1, 0) = 20:20
            meet(0, 1, 1) = 13
            """);
    }
}
