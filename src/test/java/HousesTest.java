/** Promises 1 to 7: a new object, house, hut, near, far, town, burn. */
public final class HousesTest {
    public static void main(String[] args) {
        aNewObject();
        house();
        hut();
        near();
        far();
        town();
        burn();
        Due.end();
    }

    private static void aNewObject() {
        StepsBeyond x = new StepsBeyond();
        int[] counts = {0, 0, 0, 0, 0, 0, 1, 0, 0};
        for (int what = 0; what < counts.length; what++) {
            Due.is("new: count(" + what + ")", x.count(what), counts[what]);
        }
        Due.is("new: loaf lay at 0", x.loaf(7), 0);
        Due.is("new: back()", x.back(), StepsBeyond.STATE);
        for (int s = 0; s < 4; s++) {
            Due.is("new: cell of a missing sheet", x.cell(s, 0, 0), -11);
        }
        new StepsBeyond().house(3, 0);
        Due.is("objects share nothing", x.count(0), 0);
    }

    private static void house() {
        StepsBeyond x = new StepsBeyond();
        Due.is("house(-1, 0)", x.house(-1, 0), StepsBeyond.BAD);
        Due.is("house(1600, 0)", x.house(1600, 0), StepsBeyond.BAD);
        Due.is("house(0, -1)", x.house(0, -1), StepsBeyond.BAD);
        Due.is("house(0, 2)", x.house(0, 2), StepsBeyond.BAD);
        Due.is("house(MIN, 0)", x.house(Integer.MIN_VALUE, 0), StepsBeyond.BAD);
        for (int h = 0; h < 20; h++) {
            Due.is("house " + h, x.house(h % 2 == 0 ? 0 : 1599, h % 2), h);
        }
        Due.is("house 20", x.house(5, 0), StepsBeyond.FULL);
        Due.is("BAD comes ahead of FULL", x.house(1600, 0), StepsBeyond.BAD);
        Due.is("FULL changes nothing", x.count(0), 20);
        Due.is("the last place", x.taken(19, 6), 1599);
    }

    private static void hut() {
        StepsBeyond x = new StepsBeyond();
        Due.is("hut(0, 0) without houses", x.hut(0, 0), StepsBeyond.NONE);
        x.house(100, 0);
        x.house(101, 1);
        Due.is("hut(0, 1)", x.hut(0, 1), 0);
        Due.is("two huts aren't near", x.near(0, 1), 0);
        Due.is("hut(0, 1) again", x.hut(0, 1), 1);
        Due.is("hut(0, 0)", x.hut(0, 0), 1);
        Due.is("near again", x.near(0, 1), 1);
        Due.is("hut(2, 7): NONE is first", x.hut(2, 7), StepsBeyond.NONE);
        Due.is("hut(-1, 0)", x.hut(-1, 0), StepsBeyond.NONE);
        Due.is("hut(0, 2)", x.hut(0, 2), StepsBeyond.BAD);
        Due.is("hut(0, -1)", x.hut(0, -1), StepsBeyond.BAD);
        Due.is("refusals change nothing", x.hut(0, 0), 0);
    }

    private static void near() {
        StepsBeyond x = new StepsBeyond();
        x.house(Due.place(10, 10), 0);
        x.house(Due.place(17, 10), 0);
        x.house(Due.place(10, 18), 0);
        x.house(Due.place(5, 5), 1);
        x.house(Due.place(4, 4), 1);
        Due.is("apart 49", x.near(0, 1), 1);
        Due.is("apart 64", x.near(0, 2), 0);
        Due.is("apart 50", x.near(3, 0), 0);
        Due.is("apart 2, two huts", x.near(3, 4), 0);
        x.hut(4, 0);
        Due.is("apart 2, one hut", x.near(3, 4), 1);
        Due.is("the other way round", x.near(4, 3), 1);
        Due.is("near(2, 2)", x.near(2, 2), StepsBeyond.BAD);
        Due.is("near(-1, 2)", x.near(-1, 2), StepsBeyond.BAD);
        Due.is("near(2, 5)", x.near(2, 5), StepsBeyond.BAD);
        // the row's end is no neighbour of the next row's beginning
        x.house(Due.place(39, 10), 0);
        x.house(Due.place(0, 11), 0);
        Due.is("row's end and beginning", x.near(5, 6), 0);
    }

    private static void far() {
        StepsBeyond x = new StepsBeyond();
        Due.is("far(0)", x.far(0), 12);
        Due.is("far(1)", x.far(1), 8);
        Due.is("far(2)", x.far(2), StepsBeyond.BAD);
        Due.is("far(-1)", x.far(-1), StepsBeyond.BAD);
        x.force(Due.text(x, "near 1 ; far houses * 20 + ravines + loaf * 100 + apart + side + huts ;"));
        Due.is("far of nothing", x.far(0), 0);
        x.house(8, 1);
        x.house(9, 1);
        Due.is("far of two houses, huts are 0", x.far(0), 40);
        x.ravine(0, 1, 0, 39, 99);
        Due.is("far of a ravine", x.far(0), 41);
        Due.is("far with a loaf is bound", x.far(1), 50);
        x.force(Due.text(x, "near 1 ; far - 1 + loaf * 51 ;"));
        Due.is("far below 0", x.far(0), 0);
        Due.is("far at the bound", x.far(1), 50);
    }

    private static void town() {
        StepsBeyond x = new StepsBeyond();
        Due.is("town(0) of nothing", x.town(0), StepsBeyond.NONE);
        // a chain of twenty, put in an order that lets no single pass find it
        for (int h = 0; h < 20; h++) {
            x.house(Due.place(2 * (h % 2 == 0 ? h / 2 : 19 - h / 2), 0), 0);
        }
        x.force(Due.text(x, "near side < 3 ; far 0 ;"));
        Due.is("town of a chain", x.town(0), (1 << 20) - 1);
        Due.is("its other end", x.town(1), (1 << 20) - 1);
        Due.is("count(1)", x.count(1), 1);
        x.force(Due.text(x, "near side < 2 ; far 0 ;"));
        for (int h = 0; h < 20; h++) {
            Due.is("town of one", x.town(h), 1 << h);
        }
        Due.is("count(1) of ones", x.count(1), 20);
        Due.is("town(20)", x.town(20), StepsBeyond.NONE);
        Due.is("town(-1)", x.town(-1), StepsBeyond.NONE);
    }

    private static void burn() {
        StepsBeyond x = new StepsBeyond();
        x.force(Due.text(x, "near side < 3 ; far 0 ;"));
        x.house(Due.place(0, 0), 0);
        Due.is("burn of one", x.burn(0), 0);
        x.house(Due.place(2, 0), 0);
        Due.is("burn of two", x.burn(0), 0);
        x.house(Due.place(4, 0), 0);
        Due.is("burn of three in a row", x.burn(2), 2);
        x.house(Due.place(4, 2), 0);
        x.house(Due.place(2, 2), 0);
        x.house(Due.place(0, 2), 0);
        Due.is("burn of a ladder", x.burn(0), 0);
        x.house(Due.place(0, 4), 0);
        Due.is("burn of a ladder with a tail", x.burn(3), 1 << 5);
        x.house(Due.place(20, 20), 0);
        Due.is("another town", x.burn(7), 0);
        Due.is("burn(8)", x.burn(8), StepsBeyond.NONE);
        Due.is("burn(-1)", x.burn(-1), StepsBeyond.NONE);
        StepsBeyond z = new StepsBeyond();
        z.house(Due.place(6, 6), 0);
        z.house(Due.place(1, 6), 0);
        z.house(Due.place(11, 6), 0);
        Due.is("house 0 joins the others", z.burn(2), 1);
        // taken as now: the house that would be missing still counts in houses
        StepsBeyond y = new StepsBeyond();
        y.house(0, 0);
        y.house(39, 0);
        y.house(1599, 0);
        y.force(Due.text(y, "near houses = 3 ; far 0 ;"));
        Due.is("burn by houses", y.burn(0), 0);
    }
}
