/** The boundary cases of promises 33 to 37 and of what the terms say of SHEETS and of the host's refusals. */
public final class HostEdgesTest {
    public static void main(String[] args) {
        sheet();
        sheetRefused();
        sheetMadeAnew();
        cell();
        lowestBits();
        copy();
        copyOutside();
        copyOverlapping();
        copyOfEachSort();
        houses();
        housesOutside();
        housesLeftOut();
        housesFull();
        housesFromAFullSheet();
        taken();
        takenForKinds();
        takenFull();
        Due.end();
    }

    private static void sheet() {
        Script.run("33: SHEETS 0 .. 3, 40 at most: BAD: SHEET, sort, n above 40; -14.", """
            sheet(-1, 0, 1) = BAD
            sheet(4, 0, 1) = BAD
            sheet(MIN, 0, 1) = BAD
            sheet(MAX, 0, 1) = BAD
            sheet(-1, -1, 0) = BAD
            sheet(4, -1, 0) = BAD
            sheet(0, -2, 1) = BAD
            sheet(0, 3, 1) = BAD
            sheet(0, MIN, 1) = BAD
            sheet(0, MAX, 1) = BAD
            sheet(0, 0, 41) = BAD
            sheet(0, 2, MAX) = BAD
            sheet(4, 0, -1) = BAD         # ahead of -14
            sheet(0, 3, -1) = BAD
            sheet(0, -2, -1) = BAD
            sheet(0, 0, -1) = -14
            sheet(0, 1, MIN) = -14
            sheet(3, 2, -40) = -14
            cell(0, 0, 0) = -11
            cell(3, 0, 0) = -11
            sheet(0, 0, 0) = 1
            cell(0, 0, 0) = -12
            sheet(0, 0, 1) = 1
            cell(0, 0, 0) = 1
            cell(0, 1, 0) = -12
            sheet(0, 0, 40) = 1
            sheet(1, 1, 40) = 1
            sheet(2, 2, 40) = 1
            sheet(3, 2, 39) = 1
            cell(0, 39, 0) = 1
            cell(0, 40, 0) = -12
            cell(1, 39, 0) = 1
            cell(1, 40, 0) = -12
            cell(2, 39, 0) = 1
            cell(2, 40, 0) = -12
            cell(3, 38, 0) = 1
            cell(3, 39, 0) = -12
            """);
        Script.run("33: missing (sort -1: n does not matter)", """
            sheet(0, -1, 0) = 1
            sheet(1, -1, -1) = 1
            sheet(2, -1, MIN) = 1
            sheet(3, -1, MAX) = 1
            cell(0, 0, 0) = -11
            sheet(0, 1, 5) = 1
            cell(0, 4, 0) = 1
            sheet(0, -1, 41) = 1
            cell(0, 0, 0) = -11
            cell(0, 5, 0) = -11
            houses(0, 1, 0, 0) = -11
            sheet(3, 0, 1) = 1
            sheet(3, -1, 1) = 1
            cell(3, 0, 0) = -11
            """);
    }

    private static void sheetRefused() {
        Script.run("33: They change nothing: the row that was stays.", """
            sheet(0, 2, 2) = 1
            cell(0, 0, 1234) = 1
            cell(0, 1, 1) = 1
            sheet(0, 2, 41) = BAD
            sheet(0, 2, -1) = -14
            sheet(0, 3, 2) = BAD
            sheet(0, -2, 2) = BAD
            cell(0, 2, 0) = -12
            cell(0, -1, 0) = -12
            houses(0, 2, 0, 1) = 1
            taken(0, 6) = 1234
            hut(0, 0) = 1
            """);
    }

    private static void sheetMadeAnew() {
        Script.run("33: a row of n of a sort, all 0", """
            sheet(0, 2, 6) = 1
            cell(0, 0, 1) = 1
            cell(0, 1, 1) = 1
            cell(0, 4, 1) = 1
            cell(0, 5, 1) = 1
            sheet(0, 2, 2) = 1
            sheet(0, 2, 6) = 1
            houses(0, 2, 0, 3) = 3
            taken(0, 6) = 0
            taken(2, 6) = 0
            hut(0, 0) = 0
            hut(2, 0) = 0
            cell(0, 0, 9) = 1
            sheet(0, -1, 0) = 1
            sheet(0, 1, 2) = 1
            houses(0, 1, 0, 1) = 1
            taken(3, 6) = 0
            """);
    }

    private static void cell() {
        Script.run("34: BAD: SHEET; -11; -12.", """
            cell(-1, 0, 0) = BAD
            cell(4, 0, 0) = BAD
            cell(MIN, 0, 0) = BAD
            cell(MAX, -1, 0) = BAD
            cell(0, 0, 0) = -11
            cell(3, -1, 0) = -11          # ahead of -12
            sheet(0, 2, 3) = 1
            cell(0, -1, 7) = -12
            cell(0, 3, 7) = -12
            cell(0, MIN, 7) = -12
            cell(0, MAX, 7) = -12
            cell(0, 0, 7) = 1
            cell(0, 2, 1) = 1
            cell(1, 0, 7) = -11           # the others are missing still
            cell(3, 0, 7) = -11
            houses(0, 2, 0, 1) = 1
            taken(0, 6) = 7
            houses(0, 2, 1, 1) = 1
            taken(1, 6) = 0
            hut(1, 0) = 1
            """);
    }

    private static void lowestBits() {
        becomes(0, 0, 0);
        becomes(0, 127, 127);
        becomes(0, 128, -11);
        becomes(0, 255, -11);
        becomes(0, 256, 0);
        becomes(0, 256 + 127, 127);
        becomes(0, 256 + 128, -11);
        becomes(0, 1599, 63);
        becomes(0, 1600, 64);
        becomes(0, -1, -11);
        becomes(0, -128, -11);
        becomes(0, -129, 127);
        becomes(0, -256, 0);
        becomes(0, Integer.MIN_VALUE, 0);
        becomes(0, Integer.MIN_VALUE + 5, 5);
        becomes(0, Integer.MAX_VALUE, -11);
        becomes(0, Integer.MAX_VALUE - 255 + 5, 5);
        becomes(1, 1599, 1599);
        becomes(1, 1600, -11);
        becomes(1, 32767, -11);
        becomes(1, 65535, -11);
        becomes(1, 65536, 0);
        becomes(1, 65536 + 1599, 1599);
        becomes(1, 65536 + 1600, -11);
        becomes(1, -1, -11);
        becomes(1, -65536, 0);
        becomes(1, -65536 + 300, 300);
        becomes(1, Integer.MIN_VALUE + 1599, 1599);
        becomes(1, Integer.MAX_VALUE, -11);
        becomes(2, 1599, 1599);
        becomes(2, 1600, -11);
        becomes(2, 65536 + 1, -11);
        becomes(2, 256 * 65536, -11);
        becomes(2, -1, -11);
        becomes(2, Integer.MIN_VALUE, -11);
        becomes(2, Integer.MAX_VALUE, -11);
    }

    /** A cell of a sort that becomes v makes a house at that place; -11: it makes none. */
    private static void becomes(int sort, int v, int place) {
        Script.run("34: (of bytes, shorts its lowest 8, 16 bits): " + v, """
            sheet(3, %d, 2) = 1
            cell(3, 0, %d) = 1
            houses(3, %d, 0, 1) = %d
            taken(0, 6) = %d
            """.formatted(sort, v, sort, place < 0 ? 0 : 1, place));
        // as a hut, 1 or 0, or neither
        int low = sort == 0 ? (byte) v : sort == 1 ? (short) v : v;
        Script.run("34: as a hut: " + v, """
            sheet(3, %d, 2) = 1
            cell(3, 1, %d) = 1
            houses(3, %d, 0, 1) = %d
            """.formatted(sort, v, sort, low == 0 || low == 1 ? 1 : 0));
    }

    private static void copy() {
        Script.run("35: BAD: SHEETS; -11; -13: unlike sorts; -12 (n below 0, too).", """
            copy(-1, 0, 0, 0, 0) = BAD
            copy(0, 0, -1, 0, 0) = BAD
            copy(4, 0, 0, 0, 0) = BAD
            copy(0, 0, 4, 0, 0) = BAD
            copy(MIN, 0, MAX, 0, 0) = BAD
            copy(0, 0, MAX, 0, 0) = BAD
            copy(4, -1, 0, -1, -1) = BAD  # ahead of all
            copy(0, 0, 0, 0, 0) = -11
            copy(0, -1, 0, 0, -1) = -11
            sheet(0, 2, 5) = 1
            copy(0, 0, 1, 0, 0) = -11
            copy(1, 0, 0, 0, 0) = -11
            copy(0, -1, 1, 0, 1) = -11    # ahead of -12
            copy(1, 0, 0, 9, -1) = -11
            sheet(1, 1, 5) = 1
            sheet(2, 0, 5) = 1
            copy(0, 0, 1, 0, 1) = -13
            copy(1, 0, 0, 0, 1) = -13
            copy(1, 0, 2, 0, 1) = -13
            copy(0, 0, 2, 0, 0) = -13     # of none, too
            copy(0, -1, 1, 0, 1) = -13    # ahead of -12
            copy(0, 0, 1, 0, -1) = -13
            copy(0, 0, 3, 0, 1) = -11     # missing, whatever its sort was
            copy(0, 0, 0, 0, 5) = 5
            copy(1, 0, 1, 0, 5) = 5
            copy(2, 4, 2, 0, 1) = 1
            """);
    }

    private static void copyOutside() {
        Script.run("35: -12 (n below 0, too): from 5, to 3", """
            sheet(0, 2, 5) = 1
            sheet(1, 2, 3) = 1
            copy(0, 0, 1, 0, -1) = -12
            copy(0, 0, 1, 0, MIN) = -12
            copy(0, -1, 1, 0, 0) = -12
            copy(0, -1, 1, 0, 1) = -12
            copy(0, 0, 1, -1, 0) = -12
            copy(0, 0, 1, -1, 1) = -12
            copy(0, 6, 1, 0, 0) = -12
            copy(0, 0, 1, 4, 0) = -12
            copy(0, 5, 1, 0, 1) = -12
            copy(0, 0, 1, 3, 1) = -12
            copy(0, 0, 1, 0, 4) = -12
            copy(0, 3, 1, 0, 3) = -12
            copy(0, 0, 1, 1, 3) = -12
            copy(1, 0, 0, 0, 4) = -12
            copy(1, 1, 0, 0, 3) = -12
            copy(0, 0, 1, 0, MAX) = -12
            copy(0, 1, 1, 0, MAX) = -12
            copy(0, MAX, 1, 0, 1) = -12
            copy(0, MAX, 1, 0, MAX) = -12
            copy(0, 0, 1, MAX, 1) = -12
            copy(0, 0, 1, MAX, MAX) = -12
            copy(0, MIN, 1, 0, MIN) = -12
            copy(0, MIN, 1, MIN, MIN) = -12
            copy(0, 0, 1, MIN, 1) = -12
            copy(0, 5, 1, 3, 0) = 0
            copy(0, 0, 1, 0, 0) = 0
            copy(0, 2, 1, 0, 3) = 3
            copy(0, 4, 1, 2, 1) = 1
            copy(1, 0, 0, 2, 3) = 3
            sheet(2, 2, 0) = 1
            copy(2, 0, 2, 0, 0) = 0
            copy(2, 0, 2, 0, 1) = -12
            copy(0, 0, 2, 0, 0) = 0
            copy(0, 0, 2, 1, 0) = -12
            """);
    }

    private static void copyOverlapping() {
        String row = """
            sheet(0, 2, 8) = 1
            cell(0, 0, 10) = 1
            cell(0, 2, 12) = 1
            cell(0, 4, 14) = 1
            cell(0, 6, 16) = 1
            """;
        Script.run("35: its own place j (as they were): forwards", row + """
            copy(0, 0, 0, 2, 6) = 6
            houses(0, 2, 0, 4) = 4
            taken(0, 6) = 10
            taken(1, 6) = 10
            taken(2, 6) = 12
            taken(3, 6) = 14
            """);
        Script.run("35: its own place j (as they were): backwards", row + """
            copy(0, 2, 0, 0, 6) = 6
            houses(0, 2, 0, 4) = 4
            taken(0, 6) = 12
            taken(1, 6) = 14
            taken(2, 6) = 16
            taken(3, 6) = 16
            """);
        Script.run("35: its own place j: where they are", row + """
            copy(0, 0, 0, 0, 8) = 8
            houses(0, 2, 0, 4) = 4
            taken(0, 6) = 10
            taken(3, 6) = 16
            """);
    }

    private static void copyOfEachSort() {
        for (int sort = 0; sort < 3; sort++) {
            Script.run("35: n numbers of a SHEET, from i on, come to another one's place j", """
                sheet(2, %1$d, 40) = 1
                sheet(3, %1$d, 4) = 1
                cell(2, 37, 5) = 1
                cell(2, 38, 99) = 1
                cell(2, 39, 1) = 1
                copy(2, 38, 3, 2, 2) = 2
                houses(3, %1$d, 0, 2) = 2
                taken(0, 6) = 0
                taken(1, 6) = 99
                hut(0, 0) = 0
                hut(1, 1) = 1
                houses(2, %1$d, 38, 1) = 1
                taken(2, 6) = 99
                cell(2, 38, 7) = 1
                houses(3, %1$d, 2, 1) = 1
                taken(3, 6) = 99
                copy(2, 0, 3, 0, 4) = 4
                houses(3, %1$d, 2, 1) = 1
                taken(4, 6) = 0
                """.formatted(sort));
        }
    }

    private static void houses() {
        Script.run("36: n of them (0 .. 20). BAD: SHEET, sort, n; -11; -13; -12", """
            houses(-1, 0, 0, 0) = BAD
            houses(4, 0, 0, 0) = BAD
            houses(MIN, 0, 0, 0) = BAD
            houses(MAX, 0, 0, 0) = BAD
            houses(0, -1, 0, 0) = BAD
            houses(0, 3, 0, 0) = BAD
            houses(0, MIN, 0, 0) = BAD
            houses(0, MAX, 0, 0) = BAD
            houses(0, 0, 0, -1) = BAD
            houses(0, 0, 0, 21) = BAD
            houses(0, 0, 0, MIN) = BAD
            houses(0, 0, 0, MAX) = BAD
            houses(0, 0, -1, 21) = BAD    # ahead of all
            houses(0, 0, 0, 0) = -11
            houses(0, 0, -1, 20) = -11    # ahead of -12
            sheet(0, 0, 4) = 1
            houses(0, 3, 0, 1) = BAD      # ahead of -13
            houses(0, 1, 0, 21) = BAD
            houses(0, 1, 0, 1) = -13
            houses(0, 2, 0, 0) = -13
            houses(0, 1, -1, 1) = -13     # ahead of -12
            houses(0, 2, 99, 20) = -13
            houses(1, 0, 0, 1) = -11
            count(0) = 0
            houses(0, 0, 0, 0) = 0
            houses(0, 0, 0, 1) = 1
            houses(0, 0, 0, 2) = 2
            houses(0, 0, 1, 1) = 1
            houses(0, 0, 2, 1) = 1
            count(0) = 5
            """);
    }

    private static void housesOutside() {
        Script.run("36: -12: what stood ahead came.", """
            sheet(0, 1, 5) = 1
            cell(0, 0, 100) = 1
            cell(0, 2, 1600) = 1
            cell(0, 4, 104) = 1
            houses(0, 1, -1, 1) = -12
            houses(0, 1, -2, 2) = -12
            houses(0, 1, 5, 1) = -12
            houses(0, 1, 4, 1) = -12      # its second number is outside
            houses(0, 1, MAX, 1) = -12
            houses(0, 1, MAX, 20) = -12
            houses(0, 1, MIN, 1) = -12
            houses(0, 1, MIN, 20) = -12
            count(0) = 0
            houses(0, 1, 0, 2) = 1
            count(0) = 1
            houses(0, 1, 0, 3) = -12
            count(0) = 2
            taken(1, 6) = 100
            houses(0, 1, 0, 20) = -12
            count(0) = 3
            houses(0, 1, 3, 2) = -12      # no place 0, hut 104; then outside
            count(0) = 3
            houses(0, 1, 3, 1) = 0
            sheet(1, 1, 0) = 1
            houses(1, 1, 0, 1) = -12
            houses(1, 1, 0, 0) = 0
            """);
    }

    private static void housesLeftOut() {
        Script.run("36: two by two (as of house()): how many came (others are left out)", """
            sheet(0, 2, 18) = 1
            cell(0, 0, -1) = 1
            cell(0, 2, 1600) = 1
            cell(0, 4, 1599) = 1
            cell(0, 5, 1) = 1
            cell(0, 6, 5) = 1
            cell(0, 7, 2) = 1
            cell(0, 8, 6) = 1
            cell(0, 9, -1) = 1
            cell(0, 10, MIN) = 1
            cell(0, 12, 7) = 1
            cell(0, 13, MAX) = 1
            cell(0, 14, 0) = 1
            cell(0, 16, MAX) = 1
            houses(0, 2, 0, 9) = 2
            count(0) = 2
            taken(0, 6) = 1599
            taken(1, 6) = 0
            hut(0, 1) = 1
            hut(1, 0) = 0
            houses(0, 2, 0, 2) = 0
            houses(0, 2, 16, 1) = 0
            count(0) = 2
            """);
    }

    private static void housesFull() {
        Script.run("36: HOUSES, 20 at most: others are left out", """
            sheet(0, 0, 8) = 1
            cell(0, 4, 9) = 1
            house(1, 0) = 0..17
            houses(0, 0, 0, 4) = 2
            count(0) = 20
            houses(0, 0, 0, 4) = 0
            houses(0, 0, 0, 1) = 0
            houses(0, 0, 0, 0) = 0
            houses(0, 0, 0, 5) = -12
            houses(0, 0, 7, 1) = -12
            houses(0, 0, 0, 21) = BAD
            count(0) = 20
            taken(19, 6) = 0
            """);
    }

    private static void housesFromAFullSheet() {
        Script.run("36: twenty at once: the last is outside", """
            sheet(0, 1, 40) = 1
            cell(0, 38, 77) = 1
            cell(0, 39, 1) = 1
            houses(0, 1, 2, 20) = -12
            count(0) = 19
            taken(18, 6) = 77
            hut(18, 0) = 1
            """);
        Script.run("36: twenty at once, from 0 on", """
            sheet(0, 1, 40) = 1
            cell(0, 0, 1599) = 1
            cell(0, 38, 77) = 1
            cell(0, 39, 1) = 1
            houses(0, 1, 0, 20) = 20
            count(0) = 20
            taken(0, 6) = 1599
            taken(19, 6) = 77
            hut(19, 0) = 1
            hut(18, 0) = 0
            """);
    }

    private static void taken() {
        Script.run("37: BAD: kind; -12: i; -11: nothing lies there; -13.", """
            taken(-1, -1) = BAD           # ahead of -12
            taken(32, 7) = BAD
            taken(0, 7) = BAD             # ahead of -11
            taken(0, -1) = BAD
            taken(0, MIN) = BAD
            taken(0, MAX) = BAD
            taken(-1, 6) = -12
            taken(32, 0) = -12
            taken(32, 6) = -12
            taken(MIN, 0) = -12
            taken(MAX, 6) = -12
            taken(0, 6) = -11
            taken(0, 0) = -11             # ahead of -13
            taken(20, 6) = -11
            taken(31, 5) = -11
            taken(19, 5) = -11
            house(1599, 1) = 0
            house(0, 0) = 1
            taken(0, 6) = 1599
            taken(1, 6) = 0
            taken(2, 6) = -11
            taken(0, 0) = -13
            taken(0, 1) = -13
            taken(0, 2) = -13
            taken(0, 3) = -13
            taken(0, 4) = -13
            taken(0, 5) = -13
            taken(0, 7) = BAD
            shape(0, 1, 0) = 0
            taken(20, 0) = 0
            taken(20, 6) = -13
            taken(21, 6) = -11
            taken(20, 7) = BAD
            """);
    }

    private static void takenForKinds() {
        String[] are = {"0", "01", "012", "013", "0124", "01245"};
        StringBuilder script = new StringBuilder("house(5, 0) = 0\n");
        for (int kind = 0; kind < 6; kind++) {
            script.append("shape(%d, 0, 1) = %d\n".formatted(kind, kind));
            for (int asked = 0; asked <= 6; asked++) {
                boolean is = are[kind].contains("" + asked);
                script.append("taken(%d, %d) = %d\n".formatted(20 + kind, asked, is ? kind : -13));
            }
        }
        Script.run("37: a SHAPE of that KIND (also of one that is one): its number", script.toString());
    }

    private static void takenFull() {
        Script.run("37: 0 .. 19 HOUSES, 20 .. 31 SHAPES", """
            house(7, 0) = 0..18
            taken(18, 6) = 7
            taken(19, 6) = -11
            house(8, 0) = 19
            shape(1, 0, 0) = 0..10
            taken(19, 6) = 8
            taken(20, 1) = 0
            taken(30, 1) = 10
            taken(31, 1) = -11
            shape(5, 19, 0) = 11
            taken(31, 1) = 11
            taken(31, 3) = -13
            taken(31, 6) = -13
            taken(32, 5) = -12
            taken(19, 0) = -13
            """);
    }
}
