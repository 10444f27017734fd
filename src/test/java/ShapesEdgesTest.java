/** The boundary cases of promises 11 to 17 and of what section 2 says of SHAPES, KINDS, REACH, MIDDLE, IN. */
public final class ShapesEdgesTest {
    private interface Inside {
        boolean at(int x, int y);
    }

    public static void main(String[] args) {
        shape();
        shapesFull();
        loaf();
        shapeTold();
        reach();
        reachByFar();
        within();
        aShape();
        aTown();
        aSquare();
        aBow();
        aBowTooWide();
        aWalk();
        aLoaf();
        size();
        both();
        laid();
        laidAtTheEdges();
        oneBehindAnother();
        asItIsNow();
        Due.end();
    }

    private static void shape() {
        Script.run("11: BAD: KIND, MORE; NONE", """
            house(820, 0) = 0
            shape(-1, 0, 0) = BAD
            shape(6, 0, 0) = BAD
            shape(MIN, 0, 0) = BAD
            shape(MAX, 0, 0) = BAD
            shape(0, 0, -1) = BAD
            shape(0, 0, 31) = BAD
            shape(0, 0, MIN) = BAD
            shape(0, 0, MAX) = BAD
            shape(6, 1, 31) = BAD     # ahead of NONE
            shape(6, 1, 0) = BAD
            shape(0, 1, 31) = BAD
            shape(0, -1, 0) = NONE
            shape(0, 1, 0) = NONE
            shape(5, MIN, 30) = NONE
            shape(5, MAX, 30) = NONE
            count(2) = 0
            shape(0, 0, 0) = 0
            shape(5, 0, 30) = 1
            shape(0, 0, 30) = 2
            shape(5, 0, 0) = 3
            shapeTold(3, 0) = 5
            shapeTold(2, 2) = 30
            count(2) = 4
            """);
    }

    private static void shapesFull() {
        Script.run("11: SHAPES, 12 at most. FULL.", """
            house(820, 0) = 0
            shape(1, 0, 2) = 0..10
            count(2) = 11
            shapeTold(11, 0) = -5
            size(11) = NONE
            shape(5, 0, 30) = 11
            shape(0, 0, 0) = FULL
            shape(5, 0, 30) = FULL
            shape(6, 0, 0) = BAD      # ahead of FULL
            shape(0, 0, 31) = BAD
            shape(0, 1, 0) = NONE     # ahead of FULL
            count(2) = 12
            shapeTold(11, 0) = 5
            shapeTold(11, 2) = 30
            shapeTold(12, 0) = -5
            taken(31, 5) = 11
            """);
    }

    private static void loaf() {
        Script.run("12: where it lay (0 at first). BAD.", """
            loaf(-1) = BAD
            loaf(1600) = BAD
            loaf(MIN) = BAD
            loaf(MAX) = BAD
            loaf(1599) = 0
            loaf(1600) = BAD
            loaf(1599) = 1599
            loaf(0) = 1599
            loaf(-1) = BAD
            loaf(7) = 0
            """);
    }

    private static void shapeTold() {
        Script.run("13: -5: no such SHAPE; -7: what.", """
            house(3, 0) = 0
            house(1599, 1) = 1
            shapeTold(0, 0) = -5
            shapeTold(0, 5) = -5      # ahead of -7
            shape(4, 1, 30) = 0
            shapeTold(-1, 0) = -5
            shapeTold(1, 0) = -5
            shapeTold(1, -1) = -5
            shapeTold(MIN, 0) = -5
            shapeTold(MAX, 0) = -5
            shapeTold(0, -1) = -7
            shapeTold(0, 5) = -7
            shapeTold(0, MIN) = -7
            shapeTold(0, MAX) = -7
            shapeTold(0, 0) = 4
            shapeTold(0, 1) = 1
            shapeTold(0, 2) = 30
            shapeTold(0, 3) = 42
            shapeTold(0, 4) = 1599
            """);
    }

    private static void reach() {
        Script.run("REACH: MORE; of a BOW half (cut); MIDDLE: the HOUSE's PLACE, of a LOAF THE LOAF", """
            house(3, 0) = 0
            house(1599, 1) = 1
            shape(3, 1, 0) = 0
            shape(3, 1, 1) = 1
            shape(3, 1, 2) = 2
            shape(3, 1, 3) = 3
            shape(3, 1, 29) = 4
            shape(3, 1, 30) = 5
            shape(0, 1, 30) = 6
            shape(1, 1, 30) = 7
            shape(2, 1, 30) = 8
            shape(4, 1, 30) = 9
            shape(5, 1, 30) = 10
            shape(5, 0, 0) = 11
            shapeTold(0, 3) = 0
            shapeTold(1, 3) = 0
            shapeTold(2, 3) = 1
            shapeTold(3, 3) = 1
            shapeTold(4, 3) = 14
            shapeTold(5, 3) = 15
            shapeTold(6, 3) = 30
            shapeTold(7, 3) = 30
            shapeTold(8, 3) = 30
            shapeTold(9, 3) = 42
            shapeTold(10, 3) = 37
            shapeTold(11, 3) = 7
            shapeTold(0, 4) = 1599
            shapeTold(6, 4) = 1599
            shapeTold(7, 4) = 1599
            shapeTold(8, 4) = 1599
            shapeTold(9, 4) = 1599
            shapeTold(10, 4) = 0
            loaf(1598) = 0
            shapeTold(9, 4) = 1599
            shapeTold(10, 4) = 1598
            shapeTold(11, 4) = 1598
            """);
    }

    private static void reachByFar() {
        Script.run("WALK: a SQUARE's and far; LOAF: MORE and far with loaf 1, less 1 (0 at least)", """
            house(820, 0) = 0
            shape(4, 0, 0) = 0
            shape(4, 0, 30) = 1
            shape(5, 0, 0) = 2
            shape(5, 0, 1) = 3
            shape(5, 0, 30) = 4
            text "near 1;far loaf - 1;" = 1
            text "near 1;far loaf;" = 2
            text "near 1;far 2 - loaf;" = 3
            text "near 1;far 51 - loaf * 2;" = 4
            text "near 1;far 49 + loaf * 2;" = 5
            force(1) = 0
            shapeTold(0, 3) = 0       # far -1, which is 0
            shapeTold(1, 3) = 30
            shapeTold(2, 3) = 0       # 0 and 0, less 1
            shapeTold(3, 3) = 0
            shapeTold(4, 3) = 29
            size(0) = 1
            size(2) = 1
            force(2) = 1
            shapeTold(0, 3) = 0
            shapeTold(2, 3) = 0       # 0 and 1, less 1
            shapeTold(3, 3) = 1
            force(3) = 2
            shapeTold(0, 3) = 2
            shapeTold(2, 3) = 0
            shapeTold(4, 3) = 30
            force(4) = 3
            shapeTold(0, 3) = 50      # 51 is 50
            shapeTold(1, 3) = 80
            shapeTold(2, 3) = 48
            force(5) = 4
            shapeTold(0, 3) = 49
            shapeTold(2, 3) = 49      # 51 is 50, less 1
            shapeTold(4, 3) = 79
            size(1) = 1600
            size(4) = 1600
            """);
    }

    private static void within() {
        Script.run("14: NONE; BAD.", """
            house(0, 0) = 0
            within(0, 0) = NONE
            within(0, 1600) = NONE    # ahead of BAD
            shape(0, 0, 0) = 0
            within(0, -1) = BAD
            within(0, 1600) = BAD
            within(0, MIN) = BAD
            within(0, MAX) = BAD
            within(1, 0) = NONE
            within(-1, 0) = NONE
            within(MIN, 0) = NONE
            within(MAX, -1) = NONE
            within(0, 0) = 1
            within(0, 1) = 0
            within(0, 1599) = 0
            house(1599, 0) = 1
            shape(0, 1, 0) = 1
            within(1, 1599) = 1
            within(1, 1598) = 0
            within(1, 0) = 0
            """);
    }

    private static void aShape() {
        for (int more : new int[] {0, 1, 2, 5, 30}) {
            shapeOf("a SHAPE in the middle", 20, 20, more);
            shapeOf("a SHAPE at the first place", 0, 0, more);
            shapeOf("a SHAPE at the last place", 39, 39, more);
            shapeOf("a SHAPE at a row's end", 39, 7, more);
            shapeOf("a SHAPE at a row's beginning", 0, 31, more);
        }
    }

    private static void shapeOf(String title, int hx, int hy, int more) {
        isExactly(title + " by " + more, """
            house(%d:%d, 0) = 0
            house(20:21, 0) = 1
            shape(0, 0, %d) = 0
            """.formatted(hx, hy, more), (x, y) -> off(x, hx) + off(y, hy) <= more);
    }

    /** One town at (10, 10), (16, 12), (16, 16) by TEXT 0, and another one at (25, 12). */
    private static String town(int kind, int home, int more) {
        return """
            house(10:10, 0) = 0
            house(25:12, 1) = 1
            house(16:12, 1) = 2
            house(16:16, 0) = 3
            town(0) = 13
            shape(%d, %d, %d) = 0
            """.formatted(kind, home, more);
    }

    private static boolean byTown(int x, int y, int reach) {
        return off(x, 10) + off(y, 10) <= reach || off(x, 16) + off(y, 12) <= reach
            || off(x, 16) + off(y, 16) <= reach;
    }

    private static void aTown() {
        for (int more : new int[] {0, 1, 3, 4, 30}) {
            for (int home : new int[] {0, 2, 3}) {
                isExactly("a TOWN by " + more, town(1, home, more), (x, y) -> byTown(x, y, more));
            }
        }
        isExactly("a TOWN of one", town(1, 1, 2), (x, y) -> off(x, 25) + off(y, 12) <= 2);
    }

    private static void aSquare() {
        for (int more : new int[] {0, 1, 9, 10, 23, 30}) {
            isExactly("a SQUARE by " + more, town(2, 3, more), (x, y) ->
                x >= 10 - more && x <= 16 + more && y >= 10 - more && y <= 16 + more);
        }
        isExactly("a SQUARE of one in a corner", """
            house(39:0, 0) = 0
            shape(2, 0, 1) = 0
            """, (x, y) -> x >= 38 && y <= 1);
    }

    private static void aBow() {
        // the town is 6 wide both ways: not more than twice 3
        for (int more : new int[] {0, 1, 2}) {
            isExactly("a BOW by " + more, town(3, 2, more), (x, y) -> byTown(x, y, more / 2));
        }
        for (int more : new int[] {3, 4, 9, 30}) {
            isExactly("a BOW by " + more, town(3, 2, more), (x, y) ->
                byTown(x, y, more / 2) || x >= 10 && x <= 16 && y >= 10 && y <= 16);
        }
        isExactly("a BOW of one by 0", town(3, 1, 0), (x, y) -> x == 25 && y == 12);
    }

    /** Neither all x nor all y may differ by more than twice MORE: one way just so much, the other way one more. */
    private static void aBowTooWide() {
        bowOf(4, 4, true);
        bowOf(4, 5, false);
        bowOf(5, 4, false);
        bowOf(5, 5, false);
        bowOf(0, 4, true);
        bowOf(4, 0, true);
        bowOf(0, 5, false);
        bowOf(5, 0, false);
    }

    private static void bowOf(int wide, int high, boolean filled) {
        isExactly("a BOW by 2 over " + wide + " and " + high, """
            text "near 1;far 0;" = 1
            force(1) = 0
            house(20:20, 0) = 0
            house(%d:%d, 0) = 1
            town(0) = 3
            shape(3, 1, 2) = 0
            """.formatted(20 + wide, 20 + high), (x, y) ->
                off(x, 20) + off(y, 20) <= 1 || off(x, 20 + wide) + off(y, 20 + high) <= 1
                || filled && x >= 20 && x <= 20 + wide && y >= 20 && y <= 20 + high);
    }

    private static void aWalk() {
        for (int more : new int[] {0, 1, 30}) {
            isExactly("a WALK by " + more, town(4, 0, more), (x, y) ->
                x >= 10 - more - 12 && x <= 16 + more + 12 && y >= 10 - more - 12 && y <= 16 + more + 12);
        }
        isExactly("a WALK by far 0", town(4, 0, 0) + """
            text "near 0;far 0;" = 1
            force(1) = 0
            """, (x, y) -> x == 10 && y == 10);
    }

    private static void aLoaf() {
        int[][] places = {{0, 0}, {39, 0}, {0, 39}, {39, 39}, {20, 20}, {39, 18}};
        for (int[] p : places) {
            for (int more : new int[] {0, 2, 30}) {
                int reach = more + 8 - 1;
                isExactly("a LOAF by " + more, town(5, 0, more) + "loaf(%d:%d) = 0\n".formatted(p[0], p[1]), (x, y) ->
                    x >= p[0] - reach && x <= p[0] + reach && y >= p[1] - reach && y <= p[1] + reach);
            }
        }
        isExactly("a LOAF of no reach", town(5, 0, 0) + """
            text "near 0;far 0;" = 1
            force(1) = 0
            loaf(39:39) = 0
            """, (x, y) -> x == 39 && y == 39);
    }

    private static void size() {
        Script.run("15: NONE.", """
            size(0) = NONE
            house(0, 0) = 0
            shape(0, 0, 30) = 0
            shape(2, 0, 30) = 1
            size(-1) = NONE
            size(2) = NONE
            size(MIN) = NONE
            size(MAX) = NONE
            size(0) = 496
            size(1) = 961
            """);
    }

    private static void both() {
        Script.run("16: NONE; BAD.", """
            house(0, 0) = 0
            house(1599, 0) = 1
            both(0, 0, 3) = NONE      # ahead of BAD
            shape(2, 0, 1) = 0
            shape(0, 0, 1) = 1
            shape(0, 1, 0) = 2
            both(0, 3, 0) = NONE
            both(3, 0, 0) = NONE
            both(-1, 0, 0) = NONE
            both(0, -1, 0) = NONE
            both(MIN, 0, 0) = NONE
            both(0, MAX, 0) = NONE
            both(0, 3, 3) = NONE
            both(3, 0, -1) = NONE
            both(0, 1, -1) = BAD
            both(0, 1, 3) = BAD
            both(0, 0, 3) = BAD
            both(0, 1, MIN) = BAD
            both(0, 1, MAX) = BAD
            both(0, 1, 0) = 3
            both(0, 1, 1) = 1
            both(0, 1, 2) = 0
            both(1, 0, 0) = 3
            both(1, 0, 1) = 0
            both(1, 0, 2) = 1
            both(0, 2, 0) = 0
            both(0, 2, 1) = 4
            both(0, 2, 2) = 1
            both(2, 2, 0) = 1
            both(2, 2, 1) = 0
            both(2, 2, 2) = 0
            """);
        Script.run("16: all PLACES IN both.", """
            house(820, 0) = 0
            shape(2, 0, 30) = 0
            shape(4, 0, 30) = 1
            both(0, 1, 0) = 1600
            both(0, 1, 1) = 0
            both(0, 1, 2) = 0
            """);
    }

    private static void laid() {
        Script.run("17: NONE; BAD; -13: the SHAPE is no LOAF", """
            house(0, 0) = 0
            laid(0, 1600) = NONE      # ahead of BAD
            shape(0, 0, 1) = 0
            shape(1, 0, 1) = 1
            shape(2, 0, 1) = 2
            shape(3, 0, 1) = 3
            shape(4, 0, 1) = 4
            shape(5, 0, 1) = 5
            loaf(700) = 0
            laid(6, 0) = NONE
            laid(-1, 0) = NONE
            laid(MIN, 0) = NONE
            laid(MAX, -1) = NONE
            laid(0, -1) = BAD         # ahead of -13
            laid(4, 1600) = BAD
            laid(5, -1) = BAD
            laid(5, 1600) = BAD
            laid(5, MIN) = BAD
            laid(5, MAX) = BAD
            laid(0, 0) = -13
            laid(1, 0) = -13
            laid(2, 0) = -13
            laid(3, 0) = -13
            laid(4, 0) = -13
            laid(5, 0) = 0
            laid(5, 1599) = 31:31
            loaf(0) = 700             # nothing changed
            """);
    }

    private static void laidAtTheEdges() {
        Script.run("17: The first PLACE at which THE LOAF would let a PLACE be IN", """
            house(0, 0) = 0
            text "near 1;far 3;" = 1
            text "near 1;far 0;" = 2
            force(1) = 0
            shape(5, 0, 0) = 0
            laid(0, 0:0) = 0
            laid(0, 2:2) = 0
            laid(0, 3:2) = 1:0
            laid(0, 2:3) = 0:1
            laid(0, 3:3) = 1:1
            laid(0, 39:0) = 37:0
            laid(0, 0:39) = 0:37
            laid(0, 39:39) = 37:37
            force(2) = 1
            laid(0, 0) = 0
            laid(0, 39) = 39
            laid(0, 40) = 40
            laid(0, 1599) = 1599
            shape(5, 0, 30) = 1
            laid(1, 1599) = 10:10
            """);
    }

    /** What was reckoned for one SHAPE does not count for the next one. */
    private static void oneBehindAnother() {
        Script.run("which PLACES are IN, asked of one KIND behind another", """
            house(10:10, 0) = 0
            house(14:12, 0) = 1
            house(30:30, 0) = 2
            shape(3, 0, 2) = 0
            shape(1, 0, 0) = 1
            shape(2, 0, 0) = 2
            shape(0, 0, 0) = 3
            shape(1, 2, 0) = 4
            shape(3, 0, 1) = 5
            size(0) = 19
            size(1) = 2
            size(0) = 19
            within(1, 12:11) = 0
            size(2) = 15
            size(1) = 2
            size(3) = 1
            size(2) = 15
            size(4) = 1
            size(0) = 19
            size(5) = 2
            both(0, 1, 0) = 2
            both(1, 0, 0) = 2
            both(1, 0, 2) = 17
            both(0, 1, 1) = 17
            both(2, 1, 0) = 2
            both(1, 2, 2) = 13
            """);
    }

    private static void asItIsNow() {
        Script.run("(Whatever isn't told is as of the KIND above; all as it is now.)", """
            house(10:10, 0) = 0
            shape(0, 0, 1) = 0
            shape(1, 0, 1) = 1
            shape(2, 0, 1) = 2
            shape(3, 0, 2) = 3
            shape(4, 0, 1) = 4
            shape(5, 0, 1) = 5
            size(1) = 5
            size(2) = 9
            size(3) = 5
            size(4) = 576
            size(5) = 81
            house(13:10, 0) = 1
            size(0) = 5
            size(1) = 10
            size(2) = 18
            size(3) = 10
            size(4) = 648
            size(5) = 81
            hut(0, 1) = 0
            hut(1, 1) = 0
            size(1) = 5
            size(2) = 9
            size(4) = 576
            loaf(10:10) = 0
            size(5) = 289
            text "near ravines;far ravines;" = 1
            force(1) = 0
            size(1) = 5
            size(4) = 9
            size(5) = 1
            ravine(0, 1, 0, 0, 1) = 1
            size(1) = 10
            size(4) = 40
            size(5) = 9
            """);
    }

    // ---- what several share

    private static int off(int a, int b) {
        return Math.abs(a - b);
    }

    /** Of all PLACES just those told are IN shape 0; an object is asked no more than 400 times. */
    private static void isExactly(String title, String script, Inside inside) {
        int size = 0;
        StepsBeyond x = null;
        for (int p = 0; p < 1600; p++) {
            if (p % 400 == 0) {
                x = Script.made(script);
            }
            boolean due = inside.at(p % 40, p / 40);
            size += due ? 1 : 0;
            Due.is(title + ": within(0, " + p % 40 + ":" + p / 40 + ")", x.within(0, p), due ? 1 : 0);
        }
        Due.is(title + ": size(0)", x.size(0), size);
        Due.is(title + ": both(0, 0, 0)", x.both(0, 0, 0), size);
    }
}
