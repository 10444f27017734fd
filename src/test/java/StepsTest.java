import java.util.Random;

/** Promises 18 to 27: ravine, steps, person, moves, personTold, well, may, wells, who, meet. */
public final class StepsTest {
    public static void main(String[] args) {
        ravine();
        steps();
        aWindingWay();
        manyWays();
        person();
        moves();
        personTold();
        well();
        may();
        wells();
        who();
        meet();
        Due.end();
    }

    private static void ravine() {
        StepsBeyond x = new StepsBeyond();
        int[][] wrong = {
            {-1, 1, 0, 0, 1}, {2, 1, 0, 0, 1}, {0, 0, 0, 0, 1}, {0, 40, 0, 0, 1}, {0, 1, -1, 0, 1}, {0, 1, 0, 40, 1},
            {0, 1, 40, 40, 1}, {0, 1, 3, 2, 1}, {0, 1, 0, -1, 1}, {1, 1, 0, 0, 0}, {1, 1, 0, 0, 100}, {1, 1, 0, 0, -1}};
        for (int[] r : wrong) {
            Due.is("a wrong ravine", x.ravine(r[0], r[1], r[2], r[3], r[4]), StepsBeyond.BAD);
        }
        Due.is("none came", x.count(3), 0);
        Due.is("ravine 1", x.ravine(0, 1, 0, 39, 99), 1);
        Due.is("ravine 2", x.ravine(1, 39, 39, 39, 1), 2);
        Due.is("ravine 3", x.ravine(0, 39, 0, 0, 1), 3);
        Due.is("ravine 4", x.ravine(1, 1, 0, 39, 99), 4);
        Due.is("ravine 5", x.ravine(1, 1, 0, 39, 99), 5);
        Due.is("ravine 6", x.ravine(1, 1, 0, 39, 99), 6);
        Due.is("ravine 7", x.ravine(1, 1, 0, 39, 99), StepsBeyond.FULL);
        Due.is("BAD is first", x.ravine(1, 1, 0, 39, 100), StepsBeyond.BAD);
        Due.is("count(3)", x.count(3), 6);
        Due.is("ravines there together", x.steps(0, 40), 1 + 3 * 99);
        Due.is("over a short one", x.steps(38, 39), 2);
    }

    private static void steps() {
        StepsBeyond x = new StepsBeyond();
        Due.is("steps(0, 0)", x.steps(0, 0), 0);
        Due.is("steps(39, 40)", x.steps(39, 40), 40);
        Due.is("steps(1599, 0)", x.steps(1599, 0), 78);
        Due.is("steps(-1, 0)", x.steps(-1, 0), StepsBeyond.BAD);
        Due.is("steps(0, 1600)", x.steps(0, 1600), StepsBeyond.BAD);
        x.ravine(0, 20, 10, 20, 5);
        Due.is("over it", x.steps(Due.place(19, 15), Due.place(20, 15)), 6);
        Due.is("and back", x.steps(Due.place(20, 15), Due.place(19, 15)), 6);
        Due.is("round its upper end", x.steps(Due.place(19, 10), Due.place(20, 10)), 3);
        Due.is("round its lower end", x.steps(Due.place(19, 20), Due.place(20, 20)), 3);
        Due.is("ahead of it", x.steps(Due.place(19, 9), Due.place(20, 9)), 1);
        Due.is("behind it", x.steps(Due.place(19, 21), Due.place(20, 21)), 1);
        Due.is("beside it", x.steps(Due.place(18, 15), Due.place(19, 15)), 1);
        x.ravine(1, 5, 3, 8, 2);
        Due.is("way 1, over it", x.steps(Due.place(5, 4), Due.place(5, 5)), 3);
        Due.is("way 1, ahead of it", x.steps(Due.place(2, 4), Due.place(2, 5)), 1);
        Due.is("way 1, behind it", x.steps(Due.place(9, 4), Due.place(9, 5)), 1);
    }

    /** Six ravines that leave ways at 38, 39 and 0, 1 by turns: to 38, five times 37 to and fro, 1 more. */
    private static void aWindingWay() {
        int winding = 39 + 38 + 5 * 37 + 1;
        StepsBeyond x = new StepsBeyond();
        StepsBeyond y = new StepsBeyond();
        for (int i = 0; i < 6; i++) {
            int from = i % 2 == 0 ? 0 : 2;
            x.ravine(1, 5 * i + 5, from, from + 37, 99);
            y.ravine(0, 5 * i + 5, from, from + 37, 99);
        }
        Due.is("winding from top to bottom", x.steps(0, Due.place(0, 39)), winding);
        Due.is("winding back", x.steps(Due.place(0, 39), 0), winding);
        Due.is("winding from left to right", y.steps(0, 39), winding);
        Due.is("winding back", y.steps(39, 0), winding);
    }

    private static void manyWays() {
        Random random = new Random(5);
        for (int run = 0; run < 150; run++) {
            StepsBeyond x = new StepsBeyond();
            PlainModel model = new PlainModel();
            for (int i = 0; i < 6; i++) {
                int way = random.nextInt(2);
                int at = 1 + random.nextInt(39);
                int from = random.nextInt(20);
                int to = 20 + random.nextInt(20);
                int wide = 1 + random.nextInt(99);
                Due.is("ravine", x.ravine(way, at, from, to, wide), model.ravine(way, at, from, to, wide));
            }
            for (int i = 0; i < 20; i++) {
                int p = random.nextInt(1600);
                int q = random.nextInt(1600);
                Due.is("run " + run + ": steps(" + p + ", " + q + ")", x.steps(p, q), model.steps(p, q));
            }
        }
    }

    private static void person() {
        StepsBeyond x = new StepsBeyond();
        Due.is("person(1600, 0): BAD is first", x.person(1600, 0), StepsBeyond.BAD);
        Due.is("person(0, 0)", x.person(0, 0), StepsBeyond.NONE);
        x.house(0, 0);
        x.shape(0, 0, 0);
        Due.is("person(-1, 0)", x.person(-1, 0), StepsBeyond.BAD);
        Due.is("person(0, -1)", x.person(0, -1), StepsBeyond.NONE);
        Due.is("person(0, 1)", x.person(0, 1), StepsBeyond.NONE);
        for (int i = 0; i < 8; i++) {
            Due.is("person " + i, x.person(1599, 0), i);
        }
        Due.is("person 8", x.person(0, 0), StepsBeyond.FULL);
        Due.is("NONE is ahead of FULL", x.person(0, 1), StepsBeyond.NONE);
        Due.is("count(4)", x.count(4), 8);
    }

    private static void moves() {
        StepsBeyond x = onePerson();
        Due.is("moves(0, 1599)", x.moves(0, 1599), 820);
        Due.is("moves(0, 1600)", x.moves(0, 1600), StepsBeyond.BAD);
        Due.is("moves(0, -1)", x.moves(0, -1), StepsBeyond.BAD);
        Due.is("moves(1, -1)", x.moves(1, -1), StepsBeyond.NONE);
        Due.is("moves(-1, 0)", x.moves(-1, 0), StepsBeyond.NONE);
        Due.is("moves(0, 0)", x.moves(0, 0), 1599);
        Due.is("its place", x.personTold(0, 0), 0);
    }

    private static void personTold() {
        StepsBeyond x = onePerson();
        x.shape(0, 0, 0);
        x.person(821, 1);
        Due.is("its place", x.personTold(1, 0), 821);
        Due.is("its shape", x.personTold(1, 1), 1);
        Due.is("it is OUT", x.personTold(1, 2), 1);
        Due.is("the other is not", x.personTold(0, 2), 0);
        Due.is("what 3", x.personTold(0, 3), -7);
        Due.is("what -1", x.personTold(0, -1), -7);
        Due.is("no such one is first", x.personTold(2, 3), -5);
        Due.is("personTold(-1, 0)", x.personTold(-1, 0), -5);
        x.moves(1, 820);
        Due.is("it is in again", x.personTold(1, 2), 0);
    }

    private static void well() {
        StepsBeyond x = new StepsBeyond();
        Due.is("well(-1)", x.well(-1), StepsBeyond.BAD);
        Due.is("well(1600)", x.well(1600), StepsBeyond.BAD);
        for (int k = 0; k < 10; k++) {
            Due.is("well " + k, x.well(k < 5 ? 0 : 1599), k);
        }
        Due.is("well 10", x.well(0), StepsBeyond.FULL);
        Due.is("BAD is first", x.well(1600), StepsBeyond.BAD);
        Due.is("count(5)", x.count(5), 10);
    }

    private static void may() {
        StepsBeyond x = onePerson();
        x.ravine(0, 21, 0, 39, 7);
        Due.is("where it is", x.may(0, 820, 0), 0);
        Due.is("over a ravine in 7", x.may(0, 821, 7), 3);
        Due.is("over a ravine in 8", x.may(0, 821, 8), 0);
        Due.is("the shape's edge", x.may(0, 823, 9999), 0);
        Due.is("beyond it", x.may(0, 824, 9999), 2);
        Due.is("2 is ahead of 3", x.may(0, 824, 0), 2);
        Due.is("no such one is first", x.may(1, 1600, -1), -5);
        Due.is("may(-1, 0, 0)", x.may(-1, 0, 0), -5);
        Due.is("may(0, -1, 0)", x.may(0, -1, 0), -7);
        Due.is("may(0, 1600, 0)", x.may(0, 1600, 0), -7);
        Due.is("may(0, 0, -1)", x.may(0, 0, -1), -7);
        Due.is("may(0, 0, 10000)", x.may(0, 0, 10000), -7);
        x.moves(0, Due.place(21, 30));
        Due.is("OUT, 2 away over a ravine", x.may(0, Due.place(20, 31), 0), 0);
        Due.is("OUT, 3 away", x.may(0, Due.place(21, 33), 9999), 1);
        Due.is("OUT, to the shape", x.may(0, 820, 9999), 1);
        Due.is("OUT, where it is", x.may(0, Due.place(21, 30), 0), 0);
        // the walk itself may lead anywhere: round the ravine's end outside the shape
        StepsBeyond y = onePerson();
        y.ravine(0, 21, 15, 25, 99);
        Due.is("round outside", y.may(0, 821, 13), 0);
        Due.is("round outside in 12", y.may(0, 821, 12), 3);
    }

    private static void wells() {
        StepsBeyond x = onePerson();
        Due.is("no wells", x.wells(0, 9999), 0);
        int[] wells = {820, 821, 823, 824, 1599, 0, 820, 860, 1, Due.place(20, 23)};
        for (int p : wells) {
            x.well(p);
        }
        Due.is("in 0", x.wells(0, 0), 0b0001000001);
        Due.is("in 1", x.wells(0, 1), 0b0011000011);
        Due.is("in 3", x.wells(0, 3), 0b1011000111);
        Due.is("in 9999", x.wells(0, 9999), 0b1011000111);
        Due.is("wells(1, -1)", x.wells(1, -1), -5);
        Due.is("wells(0, -1)", x.wells(0, -1), -7);
        Due.is("wells(0, 10000)", x.wells(0, 10000), -7);
        x.moves(0, 2);
        Due.is("OUT", x.wells(0, 0), 0b0100100000);
    }

    private static void who() {
        StepsBeyond x = onePerson();
        x.person(823, 0);
        x.person(824, 0);
        x.person(990, 0);
        x.ravine(0, 22, 0, 39, 4);
        Due.is("in 0", x.who(820, 0), 0b0001);
        Due.is("in 6", x.who(820, 6), 0b0001);
        Due.is("in 7", x.who(820, 7), 0b0011);
        Due.is("OUT by 2", x.who(822, 0), 0b0100);
        Due.is("beyond the shape", x.who(825, 9999), 0b0100);
        Due.is("who(-1, 0)", x.who(-1, 0), StepsBeyond.BAD);
        Due.is("who(1600, 0)", x.who(1600, 0), StepsBeyond.BAD);
        Due.is("who(0, -1)", x.who(0, -1), StepsBeyond.BAD);
        Due.is("who(0, 10000)", x.who(0, 10000), StepsBeyond.BAD);
        Due.is("nobody", x.who(0, 9999), 0);
    }

    private static void meet() {
        StepsBeyond x = new StepsBeyond();
        x.house(Due.place(10, 10), 0);
        x.house(Due.place(20, 10), 0);
        x.house(Due.place(39, 39), 0);
        x.shape(0, 0, 6);
        x.shape(0, 1, 6);
        x.shape(0, 2, 1);
        x.person(Due.place(10, 10), 0);
        x.person(Due.place(20, 10), 1);
        x.person(Due.place(39, 39), 2);
        x.person(Due.place(39, 0), 2);
        Due.is("the least of like ones", x.meet(0, 1, 0), Due.place(14, 10));
        Due.is("in so many", x.meet(0, 1, 1), 10);
        Due.is("no place IN both", x.meet(0, 2, 0), StepsBeyond.NONE);
        Due.is("one is OUT", x.meet(0, 3, 0), StepsBeyond.STATE);
        Due.is("the other is OUT", x.meet(3, 0, 1), StepsBeyond.STATE);
        Due.is("alike", x.meet(0, 0, 7), -5);
        Due.is("no such", x.meet(0, 4, 0), -5);
        Due.is("no such", x.meet(-1, 0, 0), -5);
        Due.is("what is ahead of STATE", x.meet(0, 3, 2), -7);
        Due.is("what -1", x.meet(0, 1, -1), -7);
        meetAtTheFirstPlace();
        x.ravine(0, 15, 0, 39, 3);
        Due.is("over a ravine", x.meet(0, 1, 1), 13);
        x.ravine(1, 10, 14, 16, 1);
        Due.is("the fewest, not the least", x.meet(1, 0, 0), Due.place(14, 10));
        x.moves(1, Due.place(15, 9));
        Due.is("where one is, as the other walks round", x.meet(1, 0, 0), Due.place(15, 9));
        x.moves(0, Due.place(15, 9));
        Due.is("where both are", x.meet(1, 0, 0), Due.place(15, 9));
        Due.is("in no steps", x.meet(1, 0, 1), 0);
    }

    private static void meetAtTheFirstPlace() {
        StepsBeyond x = new StepsBeyond();
        x.house(0, 0);
        x.shape(0, 0, 1);
        x.person(0, 0);
        x.person(1, 0);
        Due.is("at 0", x.meet(0, 1, 0), 0);
        Due.is("in 1", x.meet(0, 1, 1), 1);
    }

    /** One at (20, 20), BOUND by a SHAPE of 3 about it. */
    private static StepsBeyond onePerson() {
        StepsBeyond x = new StepsBeyond();
        x.house(820, 0);
        x.shape(0, 0, 3);
        Due.is("one came", x.person(820, 0), 0);
        return x;
    }
}
