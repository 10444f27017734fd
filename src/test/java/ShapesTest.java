/** Promises 11 to 17: shape, loaf, shapeTold, within, size, both, laid. */
public final class ShapesTest {
    private static final int SHAPE = 0, TOWN = 1, SQUARE = 2, BOW = 3, WALK = 4, LOAF = 5;

    public static void main(String[] args) {
        shape();
        loaf();
        shapeTold();
        reachAndFar();
        withinShape();
        withinTown();
        withinSquare();
        withinBow();
        withinWalk();
        withinLoaf();
        size();
        both();
        laid();
        asItIsNow();
        Due.end();
    }

    private static void shape() {
        StepsBeyond x = new StepsBeyond();
        Due.is("shape without a house", x.shape(0, 0, 0), StepsBeyond.NONE);
        Due.is("shape: BAD is first", x.shape(6, 0, 0), StepsBeyond.BAD);
        x.house(820, 0);
        Due.is("shape(-1, 0, 0)", x.shape(-1, 0, 0), StepsBeyond.BAD);
        Due.is("shape(6, 0, 0)", x.shape(6, 0, 0), StepsBeyond.BAD);
        Due.is("shape(0, 0, -1)", x.shape(0, 0, -1), StepsBeyond.BAD);
        Due.is("shape(0, 0, 31)", x.shape(0, 0, 31), StepsBeyond.BAD);
        Due.is("shape(0, 1, 31)", x.shape(0, 1, 31), StepsBeyond.BAD);
        Due.is("shape(0, 1, 30)", x.shape(0, 1, 30), StepsBeyond.NONE);
        Due.is("shape(0, -1, 30)", x.shape(0, -1, 30), StepsBeyond.NONE);
        for (int s = 0; s < 12; s++) {
            Due.is("shape " + s, x.shape(s % 6, 0, s < 6 ? 0 : 30), s);
        }
        Due.is("shape 12", x.shape(0, 0, 0), StepsBeyond.FULL);
        Due.is("NONE is ahead of FULL", x.shape(0, 1, 0), StepsBeyond.NONE);
        Due.is("count(2)", x.count(2), 12);
    }

    private static void loaf() {
        StepsBeyond x = new StepsBeyond();
        Due.is("loaf(1599)", x.loaf(1599), 0);
        Due.is("loaf(1600)", x.loaf(1600), StepsBeyond.BAD);
        Due.is("loaf(-1)", x.loaf(-1), StepsBeyond.BAD);
        Due.is("loaf(0)", x.loaf(0), 1599);
    }

    private static void shapeTold() {
        StepsBeyond x = new StepsBeyond();
        x.house(3, 0);
        x.house(777, 0);
        Due.is("no such shape is first", x.shapeTold(0, 9), -5);
        int[] reaches = {7, 7, 7, 3, 19, 14};
        for (int kind = SHAPE; kind <= LOAF; kind++) {
            x.shape(kind, 1, 7);
            Due.is("KIND", x.shapeTold(kind, 0), kind);
            Due.is("HOUSE", x.shapeTold(kind, 1), 1);
            Due.is("MORE", x.shapeTold(kind, 2), 7);
            Due.is("REACH of " + kind, x.shapeTold(kind, 3), reaches[kind]);
            Due.is("MIDDLE of " + kind, x.shapeTold(kind, 4), kind == LOAF ? 0 : 777);
        }
        Due.is("what -1", x.shapeTold(0, -1), -7);
        Due.is("what 5", x.shapeTold(0, 5), -7);
        Due.is("shape 6", x.shapeTold(6, 0), -5);
        Due.is("shape -1", x.shapeTold(-1, 0), -5);
        x.loaf(88);
        Due.is("MIDDLE is THE LOAF", x.shapeTold(LOAF, 4), 88);
    }

    private static void reachAndFar() {
        StepsBeyond x = new StepsBeyond();
        x.house(0, 0);
        x.shape(WALK, 0, 0);
        x.shape(LOAF, 0, 0);
        x.shape(LOAF, 0, 30);
        x.force(Due.text(x, "near 1;far 0;"));
        Due.is("WALK by 0", x.shapeTold(0, 3), 0);
        Due.is("LOAF: 0 at least", x.shapeTold(1, 3), 0);
        Due.is("LOAF: one less", x.shapeTold(2, 3), 29);
        x.force(Due.text(x, "near 1;far 99;"));
        Due.is("WALK: far is bound", x.shapeTold(0, 3), 50);
        Due.is("LOAF: far is bound ahead of one less", x.shapeTold(1, 3), 49);
        Due.is("LOAF of 30", x.shapeTold(2, 3), 79);
        Due.is("all is IN", x.size(2), 1600);
    }

    private static void withinShape() {
        StepsBeyond x = new StepsBeyond();
        x.house(Due.place(10, 10), 0);
        x.house(Due.place(12, 10), 0);
        x.shape(SHAPE, 0, 2);
        isWithin(x, 0, 10, 8, 1);
        isWithin(x, 0, 11, 9, 1);
        isWithin(x, 0, 12, 9, 0);
        isWithin(x, 0, 10, 13, 0);
        isWithin(x, 0, 14, 10, 0);
        Due.is("within(1, 0)", x.within(1, 0), StepsBeyond.NONE);
        Due.is("within(1, -1)", x.within(1, -1), StepsBeyond.NONE);
        Due.is("within(0, -1)", x.within(0, -1), StepsBeyond.BAD);
        Due.is("within(0, 1600)", x.within(0, 1600), StepsBeyond.BAD);
        x.shape(SHAPE, 0, 0);
        isWithin(x, 1, 10, 10, 1);
        isWithin(x, 1, 11, 10, 0);
    }

    private static void withinTown() {
        StepsBeyond x = threeHouses();
        x.shape(TOWN, 0, 2);
        isWithin(x, 0, 16, 12, 1);
        isWithin(x, 0, 17, 13, 1);
        isWithin(x, 0, 16, 14, 1);
        isWithin(x, 0, 13, 11, 0);
        isWithin(x, 0, 8, 8, 0);
        isWithin(x, 0, 30, 30, 0);
    }

    private static void withinSquare() {
        StepsBeyond x = threeHouses();
        x.shape(SQUARE, 1, 2);
        isWithin(x, 0, 8, 8, 1);
        isWithin(x, 0, 18, 14, 1);
        isWithin(x, 0, 8, 14, 1);
        isWithin(x, 0, 18, 8, 1);
        isWithin(x, 0, 7, 10, 0);
        isWithin(x, 0, 19, 10, 0);
        isWithin(x, 0, 10, 7, 0);
        isWithin(x, 0, 10, 15, 0);
        Due.is("size of a SQUARE", x.size(0), 11 * 7);
    }

    private static void withinBow() {
        StepsBeyond x = threeHouses();
        // 6 apart in x, 2 in y: twice 3 fills it, twice 2 does not
        x.shape(BOW, 0, 3);
        x.shape(BOW, 0, 2);
        isWithin(x, 0, 13, 11, 1);
        isWithin(x, 0, 16, 10, 1);
        isWithin(x, 0, 9, 10, 1);
        isWithin(x, 0, 9, 9, 0);
        isWithin(x, 0, 8, 10, 0);
        isWithin(x, 0, 13, 9, 0);
        isWithin(x, 1, 13, 11, 0);
        isWithin(x, 1, 11, 10, 1);
        isWithin(x, 1, 12, 10, 0);
        // y too wide, x not
        StepsBeyond y = new StepsBeyond();
        y.house(Due.place(10, 10), 0);
        y.house(Due.place(12, 16), 0);
        y.shape(BOW, 0, 3);
        y.shape(BOW, 0, 2);
        isWithin(y, 0, 11, 13, 1);
        isWithin(y, 1, 11, 13, 0);
        y.shape(BOW, 0, 0);
        Due.is("a BOW of 0 over two", y.size(2), 2);
    }

    private static void withinWalk() {
        StepsBeyond x = threeHouses();
        x.shape(WALK, 0, 1);
        isWithin(x, 0, 0, 0, 1);
        isWithin(x, 0, 29, 25, 1);
        isWithin(x, 0, 30, 25, 0);
        isWithin(x, 0, 29, 26, 0);
        Due.is("size of a WALK", x.size(0), 30 * 26);
    }

    private static void withinLoaf() {
        StepsBeyond x = threeHouses();
        x.shape(LOAF, 0, 3);
        x.loaf(Due.place(39, 20));
        isWithin(x, 0, 29, 10, 1);
        isWithin(x, 0, 28, 20, 0);
        isWithin(x, 0, 39, 30, 1);
        isWithin(x, 0, 39, 31, 0);
        isWithin(x, 0, 10, 10, 0);
        Due.is("size of a LOAF", x.size(0), 11 * 21);
    }

    /** A TOWN of two at (10, 10) and (16, 12), and another HOUSE. */
    private static StepsBeyond threeHouses() {
        StepsBeyond x = new StepsBeyond();
        x.house(Due.place(10, 10), 0);
        x.house(Due.place(16, 12), 0);
        x.house(Due.place(30, 30), 0);
        Due.is("a town of two", x.town(0), 3);
        return x;
    }

    private static void isWithin(StepsBeyond x, int s, int px, int py, int due) {
        Due.is("within(" + s + ", (" + px + ", " + py + "))", x.within(s, Due.place(px, py)), due);
    }

    private static void size() {
        StepsBeyond x = new StepsBeyond();
        Due.is("size(0)", x.size(0), StepsBeyond.NONE);
        x.house(0, 0);
        x.house(Due.place(20, 20), 0);
        x.shape(SHAPE, 0, 2);
        x.shape(SHAPE, 1, 2);
        x.shape(SHAPE, 1, 0);
        Due.is("in a corner", x.size(0), 6);
        Due.is("in the middle", x.size(1), 13);
        Due.is("of 0", x.size(2), 1);
        Due.is("size(-1)", x.size(-1), StepsBeyond.NONE);
        Due.is("size(3)", x.size(3), StepsBeyond.NONE);
    }

    private static void both() {
        StepsBeyond x = new StepsBeyond();
        x.house(Due.place(20, 20), 0);
        x.house(Due.place(30, 20), 0);
        x.shape(SQUARE, 0, 6);
        x.shape(SQUARE, 1, 5);
        Due.is("both, 0", x.both(0, 1, 0), 2 * 11);
        Due.is("both, 1", x.both(0, 1, 1), 169 - 22);
        Due.is("both, 2", x.both(0, 1, 2), 121 - 22);
        Due.is("both, the other way round", x.both(1, 0, 1), 121 - 22);
        Due.is("both of one", x.both(0, 0, 0), 169);
        Due.is("both of one, alone", x.both(0, 0, 1), 0);
        x.house(0, 0);
        x.house(1599, 0);
        x.shape(SHAPE, 2, 0);
        x.shape(SHAPE, 3, 0);
        Due.is("the first place alone", x.both(2, 3, 1), 1);
        Due.is("the last place alone", x.both(2, 3, 2), 1);
        Due.is("the last place is in both", x.both(3, 3, 0), 1);
        Due.is("both(4, 0, 9)", x.both(4, 0, 9), StepsBeyond.NONE);
        Due.is("both(0, 4, 0)", x.both(0, 4, 0), StepsBeyond.NONE);
        Due.is("both(0, -1, 0)", x.both(0, -1, 0), StepsBeyond.NONE);
        Due.is("both(0, 1, 3)", x.both(0, 1, 3), StepsBeyond.BAD);
        Due.is("both(0, 1, -1)", x.both(0, 1, -1), StepsBeyond.BAD);
    }

    private static void laid() {
        StepsBeyond x = new StepsBeyond();
        Due.is("laid(0, 0)", x.laid(0, 0), StepsBeyond.NONE);
        x.house(0, 0);
        x.shape(WALK, 0, 3);
        x.shape(LOAF, 0, 3);
        x.loaf(555);
        Due.is("laid(0, 0)", x.laid(0, 0), -13);
        Due.is("laid(0, 1600): BAD is first", x.laid(0, 1600), StepsBeyond.BAD);
        Due.is("laid(2, 1600): NONE is first", x.laid(2, 1600), StepsBeyond.NONE);
        Due.is("laid(1, -1)", x.laid(1, -1), StepsBeyond.BAD);
        Due.is("laid in the middle", x.laid(1, Due.place(20, 15)), Due.place(10, 5));
        Due.is("laid at the top", x.laid(1, Due.place(39, 4)), Due.place(29, 0));
        Due.is("laid at the left", x.laid(1, Due.place(9, 39)), Due.place(0, 29));
        Due.is("nothing changed", x.loaf(0), 555);
        x.force(Due.text(x, "near 1;far 0-9;"));
        x.shape(LOAF, 0, 0);
        Due.is("laid with no reach", x.laid(2, 1234), 1234);
        Due.is("laid at the first place", x.laid(2, 0), 0);
        Due.is("laid at the last place", x.laid(2, 1599), 1599);
    }

    private static void asItIsNow() {
        StepsBeyond x = new StepsBeyond();
        x.house(Due.place(10, 10), 0);
        x.shape(SQUARE, 0, 0);
        Due.is("alone", x.size(0), 1);
        x.house(Due.place(13, 10), 1);
        Due.is("a town of two", x.size(0), 4);
        x.hut(0, 1);
        Due.is("two huts", x.size(0), 1);
        x.hut(1, 0);
        Due.is("joined again", x.size(0), 4);
        x.force(Due.text(x, "near ravines;far 1;"));
        Due.is("joined by no ravine", x.size(0), 1);
        x.ravine(0, 5, 5, 5, 1);
        Due.is("joined by a ravine", x.size(0), 4);
    }
}
