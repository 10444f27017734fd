/** The boundary cases of promises 28 to 32 and of what section 3 says of A SHED, ROUNDS, AN IMAGE. */
public final class JoinedEdgesTest {
    public static void main(String[] args) {
        shed();
        shedPlaces();
        shedByLaw();
        shedOfHutsAndHouses();
        shedOfTowns();
        bridge();
        bridgeByNumbers();
        bridgeOfMany();
        roundsAtOnce();
        count();
        image();
        imageOfAll();
        imageOfNothing();
        imageAgain();
        imageOfFull();
        Due.end();
    }

    private static void shed() {
        Script.run("28: NONE; STATE: they are of one; -6: there is none.", """
            house(0, 0) = 0
            shed(0, 0) = STATE
            shed(0, 1) = NONE
            shed(1, 0) = NONE
            shed(1, 1) = NONE             # ahead of STATE
            house(1, 0) = 1
            house(1599, 0) = 2
            shed(0, 1) = STATE
            shed(1, 0) = STATE
            shed(2, 2) = STATE
            shed(0, 2) = -6
            shed(2, 1) = -6
            shed(0, 3) = NONE
            shed(-1, 0) = NONE
            shed(0, -1) = NONE
            shed(-1, -1) = NONE
            shed(MIN, 0) = NONE
            shed(0, MAX) = NONE
            count(0) = 3
            """);
    }

    private static void shedPlaces() {
        Script.run("A SHED: the first PLACE: 0", """
            text "near side = 3 and huts = 1;far 0;" = 1
            force(1) = 0
            house(3:0, 0) = 0
            house(0:3, 0) = 1
            shed(0, 1) = 0
            shed(1, 0) = 0
            """);
        Script.run("A SHED: the last PLACE", """
            text "near side = 0 and huts = 1;far 0;" = 1
            force(1) = 0
            house(1599, 0) = 0
            house(1599, 0) = 1
            house(1598, 0) = 2
            shed(0, 1) = 1599
            shed(1, 0) = 1599
            shed(0, 2) = -6
            """);
        Script.run("A SHED: none behind the last PLACE: 40 to the SOUTH of y 0 is no PLACE", """
            text "near side = 40 and apart = 1600;far 0;" = 1
            force(1) = 0
            house(0, 0) = 0
            house(0, 0) = 1
            house(39, 1) = 2
            house(39, 1) = 3
            town(0) = 1
            shed(0, 1) = -6
            shed(2, 3) = -6
            shed(0, 2) = -6
            """);
        Script.run("A SHED: of all PLACES between them the first one", """
            text "near side < 6 and huts = 1;far 0;" = 1
            force(1) = 0
            house(20:20, 0) = 0
            house(30:20, 0) = 1
            shed(0, 1) = 25:20
            house(28:20, 0) = 2
            shed(0, 2) = 24:19
            shed(0, 1) = 25:20
            house(0:20, 0) = 3
            shed(3, 0) = -6
            """);
    }

    private static void shedByLaw() {
        Script.run("A SHED: (as many houses as there are now)", """
            text "near houses = 2 and huts = 1;far 0;" = 1
            text "near houses = 3 and huts = 1;far 0;" = 2
            house(20, 0) = 0
            house(820, 0) = 1
            force(1) = 0
            shed(0, 1) = 0
            force(2) = 1
            shed(0, 1) = -6
            """);
        Script.run("A SHED: a HUT would be NEAR: it is one of the huts", """
            text "near huts = 0;far 0;" = 1
            text "near huts = 2;far 0;" = 2
            text "near ravines = 1 and huts = 1;far 0;" = 3
            text "near loaf;far 0;" = 4
            house(20, 0) = 0
            house(820, 1) = 1
            force(1) = 0
            shed(0, 1) = -6
            force(2) = 1
            shed(0, 1) = -6               # of one of them alone
            hut(1, 0) = 1
            shed(0, 1) = -6
            hut(1, 1) = 0
            force(3) = 2
            shed(0, 1) = -6
            hut(1, 0) = 1
            ravine(0, 1, 0, 0, 1) = 1
            shed(0, 1) = 0
            loaf(9) = 0
            force(4) = 3
            shed(0, 1) = -6
            """);
        Script.run("A SHED by TEXT 0: never NEAR a HUT", """
            house(10:10, 0) = 0
            house(24:10, 0) = 1
            shed(0, 1) = 17:10            # 7 from both, 49
            house(25:10, 0) = 2
            hut(1, 1) = 0
            shed(0, 1) = -6
            shed(0, 2) = -6
            hut(2, 1) = 0
            town(1) = 2
            shed(1, 2) = -6
            """);
    }

    /** Huts and houses of the same towns, the same way off: the one is near a hut, the other is not. */
    private static void shedOfHutsAndHouses() {
        Script.run("A SHED by TEXT 0: NEAR the HOUSES of a TOWN that are no HUTS", """
            house(10:10, 0) = 0
            house(13:10, 1) = 1
            house(21:10, 0) = 2
            town(0) = 3
            shed(0, 2) = 15:7             # the HUT is no help
            shed(1, 2) = 15:7
            hut(1, 0) = 1
            shed(0, 2) = 17:5             # now it is
            shed(2, 1) = 17:5
            hut(1, 1) = 0
            hut(0, 1) = 0
            town(1) = 2
            shed(0, 1) = -6
            shed(1, 2) = -6
            """);
        Script.run("A SHED: by how far it is each way, not both together", """
            text "near apart = 25;far 0;" = 1
            force(1) = 0
            house(20:20, 0) = 0
            house(28:20, 1) = 1
            shed(0, 1) = 24:17
            house(26:20, 0) = 2
            shed(0, 2) = 23:16
            house(20:30, 1) = 3
            shed(3, 0) = 20:25
            """);
    }

    private static void shedOfTowns() {
        Script.run("A SHED for two TOWNS: some HOUSE of the one and some HOUSE of the other one", """
            text "near side < 4;far 0;" = 1
            force(1) = 0
            house(10:10, 0) = 0
            house(13:10, 0) = 1
            house(16:10, 0) = 2
            house(30:10, 0) = 3
            house(25:10, 0) = 4
            house(22:10, 0) = 5
            town(0) = 7
            town(4) = 48
            shed(0, 4) = 19:10
            shed(1, 5) = 19:10
            shed(4, 2) = 19:10
            shed(3, 4) = 27:10
            shed(0, 3) = -6
            """);
    }

    private static void bridge() {
        Script.run("29: by a number (0 .. 80). NONE; BAD; STATE: it never has it.", """
            bridge(0, 0, 81) = NONE       # ahead of BAD
            house(0, 0) = 0
            house(1599, 0) = 1
            bridge(0, 2, 0) = NONE
            bridge(2, 0, 0) = NONE
            bridge(-1, 0, 0) = NONE
            bridge(0, -1, 0) = NONE
            bridge(MIN, 0, 0) = NONE
            bridge(0, MAX, 81) = NONE
            bridge(0, 1, -1) = BAD
            bridge(0, 1, 81) = BAD
            bridge(0, 0, 81) = BAD
            bridge(0, 1, MIN) = BAD
            bridge(0, 1, MAX) = BAD
            bridge(0, 1, 0) = STATE
            bridge(0, 1, 77) = STATE
            bridge(1, 0, 77) = STATE
            bridge(0, 1, 78) = 1
            bridge(0, 1, 80) = 1
            bridge(0, 0, 0) = 0           # its own TOWN has it
            bridge(1, 1, 80) = 0
            """);
    }

    private static void bridgeByNumbers() {
        Script.run("ROUNDS by 0: from the very PLACE", """
            house(820, 1) = 0
            house(820, 1) = 1
            house(821, 1) = 2
            town(0) = 1
            bridge(0, 1, 0) = 1
            bridge(0, 2, 0) = STATE
            bridge(0, 2, 1) = 1
            hut(1, 0) = 1
            town(0) = 7
            bridge(0, 1, 0) = 0
            bridge(0, 2, 0) = 0
            """);
        Script.run("ROUNDS: no farther APART than that", """
            text "near 0;far 0;" = 1
            force(1) = 0
            house(10:10, 0) = 0
            house(13:14, 0) = 1
            house(39:10, 0) = 2
            house(0:11, 0) = 3
            bridge(0, 1, 6) = STATE
            bridge(0, 1, 7) = 1
            bridge(2, 3, 10) = STATE      # of two rows
            bridge(2, 3, 30) = 2
            bridge(2, 3, 39) = 2
            bridge(2, 3, 40) = 1
            """);
    }

    private static void bridgeOfMany() {
        String row = "text \"near 0;far 0;\" = 1\nforce(1) = 0\n";
        for (int h = 0; h < 20; h++) {
            row += "house(" + 2 * h + ":" + h + ", 1) = " + h + "\n";
        }
        Script.run("ROUNDS: as many as there are others", row + """
            bridge(0, 19, 2) = STATE
            bridge(0, 19, 3) = 19
            bridge(19, 0, 3) = 19
            bridge(0, 18, 3) = 18
            bridge(19, 1, 5) = 18
            bridge(0, 19, 6) = 10
            bridge(0, 19, 56) = 2
            bridge(0, 19, 57) = 1
            bridge(9, 0, 3) = 9
            bridge(9, 19, 3) = 10
            """);
    }

    private static void roundsAtOnce() {
        Script.run("ROUNDS: in each ROUND all TOWNS come to it that have a HOUSE by one it has", """
            text "near side < 2;far 0;" = 1
            force(1) = 0
            house(0:0, 0) = 0
            house(5:0, 0) = 1
            house(6:0, 0) = 2
            house(7:0, 0) = 3
            house(12:0, 0) = 4
            house(0:5, 0) = 5
            bridge(0, 1, 5) = 1
            bridge(0, 3, 5) = 1           # with its TOWN
            bridge(0, 4, 5) = 2
            bridge(0, 5, 5) = 1
            bridge(4, 5, 5) = 3
            bridge(5, 4, 5) = 3
            bridge(4, 0, 5) = 2
            bridge(0, 4, 4) = STATE
            """);
    }

    private static void count() {
        Script.run("30: 0 .. 8. BAD.", """
            count(-1) = BAD
            count(9) = BAD
            count(MIN) = BAD
            count(MAX) = BAD
            house(0, 0) = 0
            house(1, 0) = 1
            house(1599, 0) = 2
            shape(0, 0, 0) = 0
            ravine(0, 1, 0, 0, 1) = 1
            ravine(0, 1, 0, 0, 1) = 2
            person(0, 0) = 0..3
            well(0) = 0..4
            text "near 1;far 1;" = 1
            text "near 1;far 1;" = 2
            text "near 0;far 1;" = 3
            force(3) = 0
            feed "near 1 "
            count(0) = 3
            count(1) = 3
            count(2) = 1
            count(3) = 2
            count(4) = 4
            count(5) = 5
            count(6) = 4
            count(7) = 3
            count(8) = 7
            force(0) = 3
            count(1) = 2
            count(7) = 0
            count(9) = BAD
            """);
    }

    private static void image() {
        Script.run("31, 32: how many HOUSES; STATE: there is none.", """
            back() = STATE
            house(0, 0) = 0
            back() = STATE
            hut(0, 1) = 0
            back() = STATE
            hut(0, 1) = 1
            image() = 1
            hut(0, 0) = 1
            house(1, 0) = 1
            back() = 2
            hut(0, 1) = 1
            """);
    }

    private static void imageOfAll() {
        Script.run("AN IMAGE keeps which HOUSES are HUTS, where PEOPLE are, THE LOAF, which TEXT is THE LAW", """
            house(100, 1) = 0
            house(101, 0) = 1
            shape(5, 0, 1) = 0
            person(3, 0) = 0
            person(4, 0) = 1
            loaf(1599) = 0
            text "near 0;far 1;" = 1
            text "near 1;far 2;" = 2
            force(1) = 0
            image() = 2
            hut(0, 0) = 1
            hut(1, 1) = 0
            moves(0, 9) = 3
            moves(1, 8) = 4
            loaf(7) = 1599
            force(2) = 1
            house(900, 1) = 2
            house(901, 0) = 3
            hut(3, 1) = 0
            person(5, 0) = 2
            moves(2, 6) = 5
            shape(1, 2, 2) = 1
            well(1) = 0
            ravine(0, 1, 0, 0, 1) = 1
            sheet(0, 2, 2) = 1
            cell(0, 0, 77) = 1
            text "near 1;far 3;" = 3
            feed "near"
            town(0) = 15
            back() = 4
            count(0) = 4
            count(2) = 2
            count(3) = 1
            count(4) = 3
            count(5) = 1
            count(6) = 4
            count(7) = 1
            count(8) = 4
            far(0) = 1
            town(0) = 1
            taken(2, 6) = 900
            personTold(0, 0) = 3
            personTold(1, 0) = 4
            personTold(2, 0) = 6          # came since
            shapeTold(0, 4) = 1599
            hut(0, 0) = 1
            hut(1, 0) = 0
            hut(2, 1) = 1                 # came since
            hut(3, 1) = 1
            loaf(0) = 1599
            force(3) = 1
            """);
    }

    private static void imageOfNothing() {
        Script.run("AN IMAGE of no HOUSES and no PEOPLE: those that came since stay as they are", """
            image() = 0
            house(5, 1) = 0
            shape(0, 0, 0) = 0
            person(9, 0) = 0
            moves(0, 8) = 9
            loaf(3) = 0
            text "near 1;far 1;" = 1
            force(1) = 0
            back() = 1
            hut(0, 1) = 1
            personTold(0, 0) = 8
            loaf(0) = 0
            count(7) = 0
            count(6) = 2
            """);
    }

    private static void imageAgain() {
        Script.run("THE IMAGE stays till another one is kept", """
            house(5, 0) = 0
            image() = 1
            hut(0, 1) = 0
            loaf(3) = 0
            back() = 1
            hut(0, 1) = 0
            back() = 1
            loaf(4) = 0
            hut(0, 1) = 0
            image() = 1
            hut(0, 0) = 1
            loaf(5) = 4
            back() = 1
            hut(0, 1) = 1
            loaf(0) = 4
            house(6, 1) = 1
            image() = 2
            hut(1, 0) = 1
            back() = 2
            hut(1, 1) = 1
            hut(0, 1) = 1
            loaf(0) = 0
            """);
    }

    private static void imageOfFull() {
        Script.run("AN IMAGE of twenty HOUSES and eight PEOPLE", """
            house(0, 0) = 0..18
            house(0, 1) = 19
            shape(0, 0, 0) = 0
            person(7, 0) = 0..6
            person(8, 0) = 7
            image() = 20
            hut(0, 1) = 0
            hut(18, 1) = 0
            hut(19, 0) = 1
            moves(0, 1599) = 7
            moves(7, 1598) = 8
            house(0, 0) = FULL
            back() = 20
            personTold(0, 0) = 7
            personTold(7, 0) = 8
            hut(0, 0) = 0
            hut(18, 0) = 0
            hut(19, 1) = 1
            """);
    }
}
