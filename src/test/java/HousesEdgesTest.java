/** The boundary cases of promises 1 to 7 and of what the terms say of PLACES, HOUSES, NEAR, far, TOWNS, BURN. */
public final class HousesEdgesTest {
    public static void main(String[] args) {
        aNewObject();
        house();
        placesAndRows();
        hut();
        near();
        nearByTextZero();
        nearByNames();
        far();
        farByNames();
        town();
        townsInTurn();
        burn();
        burnOfMany();
        Due.end();
    }

    private static void aNewObject() {
        Script.run("1: No HOUSES: every call on a new object.", """
            count(0) = 0
            count(1) = 0
            count(2) = 0
            count(3) = 0
            count(4) = 0
            count(5) = 0
            count(6) = 1
            count(7) = 0
            count(8) = 0
            hut(0, 0) = NONE
            near(0, 1) = BAD
            far(0) = 12
            far(1) = 8
            town(0) = NONE
            burn(0) = NONE
            force(1) = BAD
            shape(0, 0, 0) = NONE
            shapeTold(0, 0) = -5
            within(0, 0) = NONE
            size(0) = NONE
            both(0, 0, 0) = NONE
            laid(0, 0) = NONE
            steps(0, 0) = 0
            steps(0, 1599) = 78
            person(0, 0) = NONE
            moves(0, 0) = NONE
            personTold(0, 0) = -5
            may(0, 0, 0) = -5
            wells(0, 0) = -5
            who(0, 9999) = 0
            meet(0, 1, 0) = -5
            shed(0, 1) = NONE
            shed(0, 0) = NONE
            bridge(0, 0, 0) = NONE
            back() = STATE
            cell(0, 0, 0) = -11
            cell(1, 0, 0) = -11
            cell(2, 0, 0) = -11
            cell(3, 0, 0) = -11
            copy(0, 0, 1, 0, 0) = -11
            houses(0, 0, 0, 0) = -11
            taken(0, 6) = -11
            taken(19, 6) = -11
            taken(20, 0) = -11
            taken(31, 5) = -11
            loaf(0) = 0
            force(0) = 0
            text() = -100
            """);
        Script.run("32: STATE: there is none.", """
            back() = STATE
            image() = 0
            back() = 0
            """);
    }

    private static void house() {
        Script.run("2: A HOUSE, a HUT (1) or not (0). BAD", """
            house(-1, 0) = BAD
            house(1600, 0) = BAD
            house(MIN, 0) = BAD
            house(MAX, 0) = BAD
            house(0, -1) = BAD
            house(0, 2) = BAD
            house(0, MIN) = BAD
            house(0, MAX) = BAD
            house(1600, 2) = BAD
            count(0) = 0
            house(0, 0) = 0
            house(0, 1) = 1       # at the same place
            house(1599, 1) = 2
            house(1599, 0) = 3
            taken(0, 6) = 0
            taken(1, 6) = 0
            taken(2, 6) = 1599
            taken(3, 6) = 1599
            taken(4, 6) = -11
            hut(0, 0) = 0
            hut(1, 1) = 1
            hut(2, 1) = 1
            hut(3, 0) = 0
            count(0) = 4
            """);
        Script.run("2: HOUSES, 20 at most. FULL", """
            house(3, 0) = 0..18
            count(0) = 19
            town(19) = NONE
            house(1600, 1) = BAD
            house(77, 1) = 19
            count(0) = 20
            town(19) = 524288
            taken(19, 6) = 77
            house(78, 0) = FULL
            house(78, 1) = FULL
            house(1600, 0) = BAD   # ahead of FULL
            house(0, 2) = BAD
            count(0) = 20
            town(20) = NONE
            hut(20, 0) = NONE
            hut(19, 0) = 1
            """);
    }

    private static void placesAndRows() {
        Script.run("p is x = p % 40, y = p / 40.", """
            text "near side = 1;far 0;" = 1
            force(1) = 0
            house(39, 0) = 0
            house(40, 0) = 1
            house(0, 0) = 2
            house(79, 0) = 3
            house(1560, 0) = 4
            house(1559, 0) = 5
            near(0, 1) = 0       # 39 and 40 are of two rows
            near(0, 3) = 1
            near(1, 2) = 1
            near(2, 0) = 0
            near(4, 5) = 0
            steps(39, 40) = 40
            steps(1559, 1560) = 40
            steps(0, 40) = 1
            steps(0, 39) = 39
            """);
    }

    private static void hut() {
        Script.run("3: what it was. NONE; BAD.", """
            house(100, 0) = 0
            house(101, 1) = 1
            hut(-1, 0) = NONE
            hut(2, 0) = NONE
            hut(MIN, 1) = NONE
            hut(MAX, 1) = NONE
            hut(2, 2) = NONE      # ahead of BAD
            hut(0, -1) = BAD
            hut(0, 2) = BAD
            hut(0, MIN) = BAD
            hut(0, MAX) = BAD
            hut(1, 2) = BAD
            town(0) = 3
            hut(0, 0) = 0         # as it was
            hut(0, 1) = 0
            town(0) = 1
            hut(0, 1) = 1
            hut(1, 0) = 1
            hut(1, 0) = 0
            town(0) = 3
            """);
    }

    private static void near() {
        Script.run("4: BAD: HOUSES (alike, too).", """
            near(0, 0) = BAD
            house(0, 0) = 0
            near(0, 0) = BAD
            near(0, 1) = BAD
            near(1, 0) = BAD
            house(0, 1) = 1
            near(0, 1) = 1        # apart 0
            near(1, 0) = 1
            near(1, 1) = BAD
            near(0, 2) = BAD
            near(2, 0) = BAD
            near(2, 2) = BAD
            near(-1, 0) = BAD
            near(0, -1) = BAD
            near(-1, -1) = BAD
            near(MIN, 0) = BAD
            near(0, MAX) = BAD
            """);
    }

    private static void nearByTextZero() {
        Script.run("TEXT 0, at first, and THE LAW: near apart < 50 and huts < 2", """
            house(10:10, 0) = 0
            house(17:10, 0) = 1
            house(10:3, 1) = 2
            house(17:11, 0) = 3
            house(5:5, 0) = 4
            house(5:14, 1) = 5
            house(10:11, 1) = 6
            count(7) = 0
            near(0, 1) = 1       # 49 and 0
            near(0, 2) = 1       # 0 and 49, one hut
            near(0, 3) = 0       # 49 and 1
            near(0, 4) = 0       # 25 and 25
            near(0, 5) = 1       # 25 and 16
            near(0, 6) = 1       # one hut
            near(5, 6) = 0       # two huts, 25 and 9
            hut(5, 0) = 1
            near(5, 6) = 1
            """);
    }

    private static void nearByNames() {
        nearBy("apart = 25", "apart: the square of the difference in x and that of y's together");
        nearBy("side = 7", "side: how far APART they are");
        nearBy("huts = 1", "huts: how many of both are HUTS");
        nearBy("houses = 2", "houses: how many there are");
        nearBy("ravines = 0", "ravines: how many there are");
        nearBy("loaf = 0", "near: loaf 0");
        nearBy("apart - 26", "Two are NEAR, if it isn't 0: below 0");
        nearBy("4096*4096*128", "Two are NEAR, if it isn't 0: the least int");
        nearBy("2", "Two are NEAR, if it isn't 0");
        Script.run("huts: how many of both are HUTS; houses, ravines: how many there are", """
            text "near huts = 2 and houses = 3 and ravines = 2;far 0;" = 1
            force(1) = 0
            house(0, 1) = 0
            house(1599, 1) = 1
            ravine(0, 1, 0, 0, 1) = 1
            ravine(0, 1, 0, 0, 1) = 2
            near(0, 1) = 0        # two houses
            house(5, 0) = 2
            near(0, 1) = 1
            near(0, 2) = 0        # one hut
            hut(2, 1) = 0
            town(0) = 7
            ravine(0, 1, 0, 0, 1) = 3
            town(0) = 1           # three ravines
            count(1) = 3
            """);
        Script.run("Two are NEAR, if it isn't 0.", """
            house(0, 0) = 0
            house(0, 0) = 1
            text "near 0;far 0;" = 1
            text "near 4096*4096*256;far 0;" = 2
            text "near 1-1;far 0;" = 3
            text "near loaf;far 0;" = 4
            force(1) = 0
            near(0, 1) = 0
            force(2) = 1
            near(0, 1) = 0       # wraps around to 0
            force(3) = 2
            near(0, 1) = 0
            loaf(5) = 0
            force(4) = 3
            near(0, 1) = 0
            """);
    }

    /** Two of which one is a hut, 3 and 4 from one another: near by that, and not by its contrary. */
    private static void nearBy(String law, String title) {
        Script.run(title, """
            text "near %s;far 0;" = 1
            text "near not (%s);far 0;" = 2
            house(20:20, 0) = 0
            house(23:16, 1) = 1
            force(1) = 0
            near(0, 1) = 1
            near(1, 0) = 1
            town(1) = 3
            force(2) = 1
            near(0, 1) = 0
            near(1, 0) = 0
            town(1) = 2
            """.formatted(law, law));
    }

    private static void far() {
        Script.run("5: with loaf 0 or 1. BAD.", """
            far(0) = 12
            far(1) = 8
            far(-1) = BAD
            far(2) = BAD
            far(MIN) = BAD
            far(MAX) = BAD
            """);
        farIs("0 - 1", 0);
        farIs("0", 0);
        farIs("1", 1);
        farIs("49", 49);
        farIs("50", 50);
        farIs("51", 50);
        farIs("9999", 50);
        farIs("4096*4096*128", 0);
        farIs("4096*4096*128-1", 50);
        farIs("-1+51", 50);
        farIs("-(4096*4096*128)", 0);
    }

    private static void farIs(String far, int due) {
        Script.run("5: far (0 .. 50, else the bound)", """
            text "near 1;far %s;" = 1
            far(0) = 12
            force(1) = 0
            far(0) = %d
            far(1) = %d
            """.formatted(far, due, due));
    }

    private static void farByNames() {
        Script.run("far: loaf as told (0, 1); apart, side, huts 0; houses, ravines as above.", """
            house(0, 1) = 0
            house(1599, 1) = 1
            loaf(1599) = 0
            text "near 1;far apart+side+huts;" = 1
            text "near 1;far loaf*7+3;" = 2
            text "near 1;far houses*10+ravines;" = 3
            force(1) = 0
            far(0) = 0
            far(1) = 0
            force(2) = 1
            far(0) = 3
            far(1) = 10
            force(3) = 2
            far(0) = 20
            ravine(0, 1, 0, 0, 1) = 1
            far(0) = 21
            far(1) = 21
            house(5, 0) = 2
            far(0) = 31
            house(6, 0) = 3
            house(7, 0) = 4
            far(0) = 50
            """);
    }

    private static void town() {
        Script.run("6: TOWN of a HOUSE (bits). NONE.", """
            town(0) = NONE
            house(0, 0) = 0
            town(0) = 1
            town(1) = NONE
            town(-1) = NONE
            town(MIN) = NONE
            town(MAX) = NONE
            town(32) = NONE       # no bit that comes round again
            house(1599, 0) = 1
            town(0) = 1
            town(1) = 2
            """);
    }

    private static void townsInTurn() {
        Script.run("A TOWN: from one to a NEAR one, and so on.", """
            text "near side = 1;far 0;" = 1
            force(1) = 0
            house(4:0, 0) = 0
            house(0:0, 0) = 1
            house(3:0, 0) = 2
            house(1:0, 0) = 3
            town(0) = 5
            town(1) = 10
            count(1) = 2
            house(2:0, 0) = 4
            town(0) = 31
            town(3) = 31
            count(1) = 1
            house(6:0, 0) = 5
            town(5) = 32
            count(1) = 2
            force(0) = 1
            town(5) = 63
            """);
        Script.run("A TOWN of all twenty, and twenty of one.", """
            text "near 0;far 0;" = 1
            text "near 1;far 0;" = 2
            house(0, 1) = 0..19
            count(1) = 20
            town(0) = 1
            town(19) = 524288
            force(1) = 0
            count(1) = 20
            force(2) = 1
            count(1) = 1
            town(0) = 1048575
            town(19) = 1048575
            burn(0) = 0
            """);
    }

    private static void burn() {
        Script.run("7: BURN (bits). NONE.", """
            burn(0) = NONE
            house(0:0, 0) = 0
            burn(0) = 0           # no others
            burn(1) = NONE
            burn(-1) = NONE
            burn(MIN) = NONE
            burn(MAX) = NONE
            burn(32) = NONE
            house(7:0, 0) = 1
            burn(0) = 0           # one other
            house(14:0, 0) = 2
            burn(0) = 2
            burn(1) = 2
            burn(2) = 2
            house(30:30, 0) = 3
            burn(3) = 0
            burn(0) = 2           # of its TOWN alone
            hut(0, 1) = 0
            hut(1, 1) = 0
            burn(0) = 0           # alone now
            burn(2) = 0
            """);
        Script.run("BURN: without any one of which the others of it would not all be one TOWN.", """
            text "near side = 2;far 0;" = 1
            force(1) = 0
            house(2:2, 0) = 0     # the middle of four
            house(2:0, 0) = 1
            house(2:4, 0) = 2
            house(0:2, 0) = 3
            house(4:2, 0) = 4
            burn(0) = 1
            house(3:1, 0) = 5     # by 1, 4, 0
            burn(1) = 1
            house(3:3, 0) = 6     # by 2, 4, 0, 5
            burn(1) = 1           # 3 has none but 0
            house(1:3, 0) = 7
            burn(1) = 0
            """);
    }

    private static void burnOfMany() {
        Script.run("BURN of a row of twenty: all but the ends.", """
            text "near side < 2;far 0;" = 1
            force(1) = 0
            house(0:0, 0) = 0
            house(19:0, 0) = 1
            house(1:0, 0) = 2
            house(18:0, 0) = 3
            house(2:0, 0) = 4
            house(17:0, 0) = 5
            house(3:0, 0) = 6
            house(16:0, 0) = 7
            house(4:0, 0) = 8
            house(15:0, 0) = 9
            house(5:0, 0) = 10
            house(14:0, 0) = 11
            house(6:0, 0) = 12
            house(13:0, 0) = 13
            house(7:0, 0) = 14
            house(12:0, 0) = 15
            house(8:0, 0) = 16
            house(11:0, 0) = 17
            house(9:0, 0) = 18
            count(1) = 2
            house(10:0, 0) = 19
            count(1) = 1
            burn(0) = 1048572
            burn(19) = 1048572
            """);
    }
}
