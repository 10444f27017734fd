/** Promises 33 to 37: sheet, cell, copy, houses, taken. */
public final class HostTest {
    private static final int[] NO_SHEETS = {-1, 4, Integer.MAX_VALUE, Integer.MIN_VALUE};

    public static void main(String[] args) {
        sheet();
        cell();
        copy();
        copyWithin();
        madeAnew();
        houses();
        housesLeftOut();
        housesFull();
        takenHouse();
        takenShape();
        Due.end();
    }

    private static void sheet() {
        StepsBeyond x = new StepsBeyond();
        for (int s : NO_SHEETS) {
            Due.is("sheet " + s, x.sheet(s, 0, -1), StepsBeyond.BAD);
        }
        Due.is("sort 3", x.sheet(0, 3, -1), StepsBeyond.BAD);
        Due.is("sort -2", x.sheet(0, -2, 1), StepsBeyond.BAD);
        Due.is("41", x.sheet(0, 2, 41), StepsBeyond.BAD);
        Due.is("-1", x.sheet(0, 2, -1), -14);
        Due.is("MIN", x.sheet(0, 2, Integer.MIN_VALUE), -14);
        Due.is("refused: still missing", x.cell(0, 0, 1), -11);
        for (int s = 0; s < 4; s++) {
            Due.is("40", x.sheet(s, s % 3, 40), 1);
            Due.is("its last cell", x.cell(s, 39, 5), 1);
            Due.is("behind it", x.cell(s, 40, 5), -12);
        }
        Due.is("0", x.sheet(0, 2, 0), 1);
        Due.is("no cell", x.cell(0, 0, 5), -12);
        Due.is("missing, 99", x.sheet(1, -1, 99), 1);
        Due.is("missing", x.cell(1, 0, 5), -11);
        Due.is("missing, -1", x.sheet(1, -1, -1), 1);
    }

    private static void cell() {
        StepsBeyond x = new StepsBeyond();
        for (int s : NO_SHEETS) {
            Due.is("cell of " + s, x.cell(s, 0, 0), StepsBeyond.BAD);
        }
        Due.is("missing comes ahead of outside", x.cell(0, -1, 0), -11);
        x.sheet(0, 0, 2);
        Due.is("-1", x.cell(0, -1, 0), -12);
        Due.is("2", x.cell(0, 2, 0), -12);
        Due.is("MAX", x.cell(0, Integer.MAX_VALUE, 0), -12);
        Due.is("byte 256 + 9", placeOf(0, 265), 9);
        Due.is("byte 127", placeOf(0, 127), 127);
        Due.is("byte 128 is below 0", placeOf(0, 128), -11);
        Due.is("byte -255", placeOf(0, -255), 1);
        Due.is("short 65536 + 1599", placeOf(1, 67135), 1599);
        Due.is("short 32768 is below 0", placeOf(1, 32768), -11);
        Due.is("short 1600", placeOf(1, 1600), -11);
        Due.is("int 1599", placeOf(2, 1599), 1599);
        Due.is("int 65536", placeOf(2, 65536), -11);
    }

    /** Where the house stands that a cell's number makes, -11 if it makes none. */
    private static int placeOf(int sort, int v) {
        StepsBeyond x = new StepsBeyond();
        x.sheet(3, sort, 2);
        x.cell(3, 0, v);
        x.houses(3, sort, 0, 1);
        return x.taken(0, 6);
    }

    private static void copy() {
        StepsBeyond x = new StepsBeyond();
        for (int s : NO_SHEETS) {
            Due.is("copy of " + s, x.copy(s, 0, 0, 0, 0), StepsBeyond.BAD);
            Due.is("copy to " + s, x.copy(0, 0, s, 0, 0), StepsBeyond.BAD);
        }
        x.sheet(0, 2, 5);
        Due.is("to a missing one", x.copy(0, -1, 1, 0, 1), -11);
        Due.is("from a missing one", x.copy(1, -1, 0, 0, 1), -11);
        x.sheet(1, 1, 5);
        Due.is("unlike", x.copy(0, -1, 1, 0, 1), -13);
        x.sheet(1, 2, 3);
        int[][] outside = {
            {-1, 0, 1}, {0, -1, 1}, {0, 0, -1}, {0, 0, 4}, {5, 0, 1}, {0, 3, 1}, {6, 0, 0}, {0, 4, 0}, {3, 1, 3},
            {Integer.MAX_VALUE, 0, 1}, {1, 0, Integer.MAX_VALUE}, {0, Integer.MAX_VALUE, 2},
            {0, 0, Integer.MIN_VALUE}, {Integer.MIN_VALUE, 0, Integer.MIN_VALUE}};
        for (int[] c : outside) {
            Due.is("outside: " + c[0] + " " + c[1] + " " + c[2], x.copy(0, c[0], 1, c[1], c[2]), -12);
        }
        Due.is("nothing, at the ends", x.copy(0, 5, 1, 3, 0), 0);
        Due.is("all of the other", x.copy(0, 2, 1, 0, 3), 3);
        x.cell(0, 2, 77);
        x.cell(0, 3, 1);
        Due.is("copy", x.copy(0, 2, 1, 1, 2), 2);
        Due.is("a house of it", x.houses(1, 2, 1, 1), 1);
        Due.is("its place", x.taken(0, 6), 77);
        Due.is("it is a hut", x.hut(0, 0), 1);
    }

    /** A row made anew is all 0, whatever stood there. */
    private static void madeAnew() {
        StepsBeyond x = new StepsBeyond();
        x.sheet(0, 2, 4);
        for (int i = 0; i < 4; i++) {
            x.cell(0, i, 1);
        }
        x.sheet(0, 1, 2);
        x.sheet(0, 2, 4);
        Due.is("two houses", x.houses(0, 2, 0, 2), 2);
        Due.is("at 0", x.taken(0, 6), 0);
        Due.is("no hut", x.hut(0, 0), 0);
        Due.is("at 0, too", x.taken(1, 6), 0);
        Due.is("no hut, either", x.hut(1, 0), 0);
    }

    private static void copyWithin() {
        StepsBeyond x = new StepsBeyond();
        x.sheet(0, 1, 6);
        for (int i = 0; i < 6; i++) {
            x.cell(0, i, i % 2 == 0 ? 10 + i : 0);
        }
        Due.is("forwards, as they were", x.copy(0, 0, 0, 2, 4), 4);
        Due.is("three houses", x.houses(0, 1, 0, 3), 3);
        Due.is("10", x.taken(0, 6), 10);
        Due.is("10 again", x.taken(1, 6), 10);
        Due.is("12", x.taken(2, 6), 12);
        Due.is("backwards", x.copy(0, 4, 0, 0, 2), 2);
        Due.is("one house", x.houses(0, 1, 0, 1), 1);
        Due.is("12 again", x.taken(3, 6), 12);
    }

    private static void houses() {
        StepsBeyond x = new StepsBeyond();
        for (int s : NO_SHEETS) {
            Due.is("houses of " + s, x.houses(s, 0, 0, 0), StepsBeyond.BAD);
        }
        Due.is("sort 3", x.houses(0, 3, 0, 0), StepsBeyond.BAD);
        Due.is("sort -1", x.houses(0, -1, 0, 0), StepsBeyond.BAD);
        Due.is("n -1", x.houses(0, 0, 0, -1), StepsBeyond.BAD);
        Due.is("n 21", x.houses(0, 0, 0, 21), StepsBeyond.BAD);
        Due.is("missing", x.houses(0, 0, -1, 20), -11);
        x.sheet(0, 0, 3);
        Due.is("another sort", x.houses(0, 1, -1, 20), -13);
        Due.is("none of them", x.houses(0, 0, 0, 0), 0);
        Due.is("at -1", x.houses(0, 0, -1, 1), -12);
        Due.is("at 3", x.houses(0, 0, 3, 1), -12);
        Due.is("half a pair", x.houses(0, 0, 2, 1), -12);
        Due.is("at MAX", x.houses(0, 0, Integer.MAX_VALUE, 2), -12);
        Due.is("at MIN", x.houses(0, 0, Integer.MIN_VALUE, 2), -12);
        Due.is("none came", x.count(0), 0);
        Due.is("from 1 on", x.houses(0, 0, 1, 1), 1);
        Due.is("outside, behind one", x.houses(0, 0, 0, 2), -12);
        Due.is("which came", x.count(0), 2);
    }

    private static void housesLeftOut() {
        StepsBeyond x = new StepsBeyond();
        int[] numbers = {5, 0, 1600, 0, 6, 2, -1, 1, 7, 1, 8, -1, 9, 0};
        x.sheet(2, 2, numbers.length);
        for (int i = 0; i < numbers.length; i++) {
            x.cell(2, i, numbers[i]);
        }
        Due.is("three come", x.houses(2, 2, 0, 7), 3);
        Due.is("5", x.taken(0, 6), 5);
        Due.is("7", x.taken(1, 6), 7);
        Due.is("9", x.taken(2, 6), 9);
        Due.is("a hut", x.hut(1, 1), 1);
        Due.is("no hut", x.hut(2, 0), 0);
        Due.is("joined at once", x.town(0), 7);
    }

    private static void housesFull() {
        StepsBeyond x = new StepsBeyond();
        x.sheet(0, 0, 40);
        x.house(0, 0);
        x.house(0, 0);
        x.house(0, 0);
        Due.is("as many as there is room for", x.houses(0, 0, 0, 20), 17);
        Due.is("no more", x.houses(0, 0, 0, 20), 0);
        Due.is("count(0)", x.count(0), 20);
    }

    private static void takenHouse() {
        StepsBeyond x = new StepsBeyond();
        Due.is("kind is first", x.taken(-1, 7), StepsBeyond.BAD);
        Due.is("kind -1", x.taken(0, -1), StepsBeyond.BAD);
        Due.is("-1", x.taken(-1, 0), -12);
        Due.is("32", x.taken(32, 6), -12);
        Due.is("no house", x.taken(0, 6), -11);
        Due.is("nothing comes ahead of unlike", x.taken(0, 0), -11);
        x.house(321, 0);
        Due.is("a house", x.taken(0, 6), 321);
        for (int kind = 0; kind < 6; kind++) {
            Due.is("a house is no shape", x.taken(0, kind), -13);
        }
        Due.is("the next", x.taken(1, 6), -11);
        Due.is("the last", x.taken(19, 6), -11);
    }

    private static void takenShape() {
        StepsBeyond x = new StepsBeyond();
        x.house(0, 0);
        String[] are = {"0", "01", "012", "013", "0124", "01245"};
        for (int s = 0; s < 6; s++) {
            Due.is("no shape", x.taken(20 + s, 6), -11);
            x.shape(s, 0, 0);
            Due.is("a shape is no house", x.taken(20 + s, 6), -13);
            for (int kind = 0; kind < 6; kind++) {
                boolean is = are[s].indexOf('0' + kind) >= 0;
                Due.is("kind " + s + " taken for " + kind, x.taken(20 + s, kind), is ? s : -13);
            }
        }
        for (int s = 6; s < 12; s++) {
            x.shape(0, 0, 0);
        }
        Due.is("the last", x.taken(31, 0), 11);
    }
}
