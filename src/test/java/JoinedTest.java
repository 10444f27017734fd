/** Promises 28 to 32: shed, bridge, count, image, back. */
public final class JoinedTest {
    public static void main(String[] args) {
        shed();
        shedByHuts();
        bridge();
        count();
        image();
        imageStays();
        Due.end();
    }

    private static void shed() {
        StepsBeyond x = new StepsBeyond();
        Due.is("shed(0, 1)", x.shed(0, 1), StepsBeyond.NONE);
        x.force(Due.text(x, "near side < 5 and houses = 3;far 0;"));
        x.house(Due.place(10, 10), 0);
        x.house(Due.place(16, 10), 0);
        x.house(Due.place(30, 30), 0);
        // between them x is 12 to 14 at y 10; side 4 from both: (13, 9), (12, 10), ..
        Due.is("the first place", x.shed(0, 1), Due.place(13, 9));
        Due.is("the other way round", x.shed(1, 0), Due.place(13, 9));
        Due.is("none", x.shed(0, 2), -6);
        Due.is("of one", x.shed(2, 2), StepsBeyond.STATE);
        Due.is("shed(0, 3)", x.shed(0, 3), StepsBeyond.NONE);
        Due.is("shed(-1, 0)", x.shed(-1, 0), StepsBeyond.NONE);
        Due.is("nothing came", x.count(0), 3);
        shedAtTheEnds();
    }

    private static void shedAtTheEnds() {
        StepsBeyond x = new StepsBeyond();
        x.force(Due.text(x, "near side = 2 and huts = 1;far 0;"));
        x.house(Due.place(2, 0), 0);
        x.house(Due.place(0, 2), 0);
        Due.is("the first place", x.shed(0, 1), 0);
        x.force(Due.text(x, "near apart = 0 and huts = 1;far 0;"));
        x.house(1599, 0);
        x.house(1599, 0);
        Due.is("the last place", x.shed(2, 3), 1599);
        Due.is("no place", x.shed(0, 3), -6);
    }

    private static void shedByHuts() {
        StepsBeyond x = new StepsBeyond();
        x.house(Due.place(10, 10), 1);
        x.house(Due.place(20, 10), 0);
        Due.is("a hut is never near a hut", x.shed(0, 1), -6);
        x.hut(0, 0);
        Due.is("near a house", x.shed(0, 1), Due.place(15, 6));
        // the town's other houses join it too
        x.hut(0, 1);
        x.house(Due.place(10, 12), 0);
        Due.is("a town of two", x.town(0), 5);
        Due.is("near the town's house", x.shed(0, 1), Due.place(14, 7));
        x.house(Due.place(4, 10), 0);
        Due.is("shed of one", x.shed(0, 3), StepsBeyond.STATE);
    }

    private static void bridge() {
        StepsBeyond x = new StepsBeyond();
        Due.is("bridge(0, 0, 0)", x.bridge(0, 0, 0), StepsBeyond.NONE);
        x.force(Due.text(x, "near side < 2;far 0;"));
        x.house(Due.place(0, 0), 0);
        x.house(Due.place(1, 0), 0);
        x.house(Due.place(11, 0), 0);
        x.house(Due.place(11, 1), 0);
        x.house(Due.place(11, 11), 0);
        x.house(Due.place(39, 39), 0);
        Due.is("to itself", x.bridge(0, 0, 0), 0);
        Due.is("in its town", x.bridge(0, 1, 0), 0);
        Due.is("by 9", x.bridge(0, 2, 9), StepsBeyond.STATE);
        Due.is("by 10", x.bridge(0, 2, 10), 1);
        Due.is("the whole town comes", x.bridge(0, 3, 10), 1);
        Due.is("two rounds", x.bridge(0, 4, 10), 2);
        Due.is("two rounds back", x.bridge(4, 0, 10), 2);
        Due.is("two rounds by 20", x.bridge(0, 4, 20), 2);
        Due.is("one round by 21", x.bridge(0, 4, 21), 1);
        Due.is("never", x.bridge(0, 5, 55), StepsBeyond.STATE);
        Due.is("two rounds by 56", x.bridge(0, 5, 56), 2);
        Due.is("by 80", x.bridge(0, 5, 80), 1);
        Due.is("by 81", x.bridge(0, 5, 81), StepsBeyond.BAD);
        Due.is("by -1", x.bridge(0, 5, -1), StepsBeyond.BAD);
        Due.is("NONE is first", x.bridge(0, 6, 81), StepsBeyond.NONE);
        Due.is("bridge(-1, 0, 0)", x.bridge(-1, 0, 0), StepsBeyond.NONE);
        aLongBridge();
    }

    private static void aLongBridge() {
        StepsBeyond x = new StepsBeyond();
        x.force(Due.text(x, "near 0;far 0;"));
        for (int h = 0; h < 20; h++) {
            x.house(Due.place(2 * h, h), 0);
        }
        Due.is("nineteen rounds", x.bridge(0, 19, 3), 19);
        Due.is("nineteen rounds back", x.bridge(19, 0, 5), 19);
        Due.is("ten rounds", x.bridge(0, 19, 6), 10);
        Due.is("never", x.bridge(0, 19, 2), StepsBeyond.STATE);
    }

    private static void count() {
        StepsBeyond x = new StepsBeyond();
        x.house(0, 0);
        x.house(1, 0);
        x.house(1599, 0);
        x.shape(0, 0, 0);
        x.ravine(0, 1, 0, 0, 1);
        x.ravine(0, 1, 0, 0, 1);
        for (int k = 0; k < 4; k++) {
            x.person(0, 0);
        }
        for (int k = 0; k < 5; k++) {
            x.well(0);
        }
        for (int k = 1; k < 4; k++) {
            Due.text(x, "near 1;far 1;");
        }
        x.force(2);
        x.force(0);
        Due.feed(x, "near 1 ");
        int[] due = {3, 2, 1, 2, 4, 5, 4, 0, 7};
        for (int what = 0; what < due.length; what++) {
            Due.is("count(" + what + ")", x.count(what), due[what]);
        }
        Due.is("count(9)", x.count(9), StepsBeyond.BAD);
        Due.is("count(-1)", x.count(-1), StepsBeyond.BAD);
    }

    private static void image() {
        StepsBeyond x = new StepsBeyond();
        x.house(100, 1);
        x.house(104, 0);
        x.shape(5, 0, 1);
        x.person(3, 0);
        x.loaf(200);
        Due.text(x, "near 1;far 1;");
        Due.is("image()", x.image(), 2);
        x.hut(0, 0);
        x.hut(1, 1);
        x.moves(0, 9);
        x.loaf(300);
        x.force(1);
        x.house(900, 1);
        x.hut(2, 0);
        x.person(5, 0);
        x.moves(1, 6);
        x.well(1);
        x.ravine(0, 1, 0, 0, 1);
        x.shape(0, 0, 0);
        Due.feed(x, "xyz");
        Due.is("back()", x.back(), 3);
        Due.is("a hut again", x.hut(0, 1), 1);
        Due.is("a house again", x.hut(1, 0), 0);
        Due.is("came since: as it is", x.hut(2, 0), 0);
        Due.is("one is back", x.personTold(0, 0), 3);
        Due.is("one that came since", x.personTold(1, 0), 6);
        Due.is("the loaf", x.loaf(200), 200);
        Due.is("the law", x.count(7), 0);
        Due.is("towns by the law", x.town(0), 3);
        int[] stays = {3, 2, 2, 1, 2, 1, 2, 0, 3};
        for (int what = 0; what < stays.length; what++) {
            Due.is("stays: count(" + what + ")", x.count(what), stays[what]);
        }
    }

    private static void imageStays() {
        StepsBeyond x = new StepsBeyond();
        Due.is("no image", x.back(), StepsBeyond.STATE);
        Due.is("of nothing", x.image(), 0);
        x.house(0, 1);
        x.loaf(5);
        Due.is("back to nothing", x.back(), 1);
        Due.is("the loaf", x.loaf(6), 0);
        Due.is("the hut stays", x.hut(0, 1), 1);
        Due.is("back again", x.back(), 1);
        Due.is("the loaf again", x.loaf(7), 0);
        Due.is("another image", x.image(), 1);
        x.loaf(8);
        x.hut(0, 0);
        Due.is("back to that", x.back(), 1);
        Due.is("its loaf", x.loaf(0), 7);
        Due.is("its hut", x.hut(0, 1), 1);
    }
}
