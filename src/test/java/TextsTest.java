/** Promises 8 to 10: feed, text, force. */
public final class TextsTest {
    public static void main(String[] args) {
        feed();
        sound();
        faults();
        afterAnother();
        depth();
        values();
        full();
        force();
        Due.end();
    }

    private static void feed() {
        StepsBeyond x = new StepsBeyond();
        int[] wrong = {0, -1, 9, Integer.MAX_VALUE, Integer.MIN_VALUE};
        for (int n : wrong) {
            Due.is("feed by " + n, x.feed(1L, n), StepsBeyond.BAD);
        }
        for (int i = 1; i <= 19; i++) {
            Due.is("feed " + i, x.feed(0x2020202020202020L, 8), 8 * i);
        }
        Due.is("feed to 159", x.feed(0x20202020202020L, 7), 159);
        Due.is("feed beyond 160", x.feed(0x2020L, 2), StepsBeyond.FULL);
        Due.is("FULL changes nothing", x.count(8), 159);
        Due.is("feed to 160", x.feed(0x20L, 1), 160);
        Due.is("feed to 161", x.feed(0x20L, 1), StepsBeyond.FULL);
        Due.is("BAD is first", x.feed(0x20L, 9), StepsBeyond.BAD);
        Due.is("blanks alone end too early", x.text(), -260);
        Due.is("the tape is empty then", x.count(8), 0);
        // the lowest bytes alone count, the highest of them first
        x.feed(0x7a7a7a7a6e656172L, 4);
        Due.feed(x, " 1;far 7;");
        Due.is("text of lowest bytes", x.text(), 1);
        x.force(1);
        Due.is("its far", x.far(0), 7);
    }

    private static void sound() {
        answers("near1;far2;", 1);
        answers(" near \n 1\n;far\n2 ; \n", 1);
        answers("near 0000 ; far 9999 ;", 1);
        answers("near(1);far(2);", 1);
        answers("near not apart<1 and side=2 or huts*houses-loaf+ravines;far not not 1;", 1);
        answers("near 1 < 2 and 1 = 2 or 1 < 2;far 1;", 1);
    }

    private static void faults() {
        endsTooEarly();
        faultAt(0, "far 1;");
        faultAt(0, "Near 1;");
        faultAt(0, "nearapart;far 1;");
        faultAt(0, "(near 1;far 1;");
        faultAt(5, "near ;far 1;");
        faultAt(7, "near 1 far 1;");
        faultAt(7, "near 1;near 1;");
        faultAt(13, "near 1;far 1;;");
        faultAt(14, "near 1;far 1; x");
        faultAt(5, "near 12345;far 1;");
        faultAt(5, "near 00001;far 1;");
        faultAt(5, "near 1234567890123456789;far 1;");
        faultAt(7, "near 1 12345;far 1;");
        faultAt(5, "near foo;far 1;");
        faultAt(5, "near apartx < 1;far 1;");
        faultAt(5, "near apartz < 1;far 1;");
        faultAt(5, "near aapart < 1;far 1;");
        faultAt(5, "near qpart < 1;far 1;");
        faultAt(5, "near a < 1;far 1;");
        faultAt(11, "near apart side;far 1;");
        faultAt(10, "near apart1;far 1;");
        faultAt(5, "near or;far 1;");
        faultAt(11, "near 1;far far;");
        faultAt(7, "near 1 1;far 1;");
        faultAt(9, "near 1 + not 1;far 1;");
        faultAt(9, "near 1 < not 1;far 1;");
        faultAt(7, "near - not 1;far 1;");
        faultAt(11, "near 1 < 2 < 3;far 1;");
        faultAt(11, "near 1 = 2 = 3;far 1;");
        faultAt(8, "near 1 +;far 1;");
        faultAt(5, "near + 1;far 1;");
        faultAt(9, "near 1 * * 1;far 1;");
        faultAt(7, "near (1;far 1;");
        faultAt(6, "near 1);far 1;");
        faultAt(6, "near ();far 1;");
        faultAt(9, "near 1 or;far 1;");
        faultAt(11, "near 1 and or 1;far 1;");
        faultAt(8, "near not;far 1;");
        faultAt(9, "near 1 < ;far 1;");
        faultAt(9, "near 1 * ;far 1;");
        faultAt(11, "near 1 and ;far 1;");
        faultAt(7, "near - ;far 1;");
        faultAt(6, "near 1\t;far 1;");
        faultAt(6, "near 1\r\n;far 1;");
        faultAt(6, "near 1, ;far 1;");
        faultAt(7, "near 1 > 2;far 1;");
        faultAt(5, "near " + (char) 233 + ";far 1;");
        faultAt(14, "near 1;far 1; " + (char) 0);
    }

    private static void endsTooEarly() {
        faultAt(0, "");
        faultAt(3, "   ");
        faultAt(4, "near");
        faultAt(5, "near ");
        faultAt(9, "near 1 < ");
        faultAt(9, "near ( 1 ");
        faultAt(7, "near 1;");
        faultAt(12, "near 1;far 1");
        faultAt(14, "near 1;far 1 \n");
    }

    /** What an earlier text left behind the tape's end does not count. */
    private static void afterAnother() {
        StepsBeyond x = new StepsBeyond();
        Due.is("a longer text", Due.text(x, "near 123456;far 1;"), -105);
        Due.is("ends behind a number", Due.text(x, "near 12"), -107);
        Due.is("a longer word", Due.text(x, "near apartment"), -105);
        Due.is("ends behind a word", Due.text(x, "near apart"), -110);
        Due.is("ends behind blanks", Due.text(x, "     "), -105);
    }

    private static void depth() {
        answers("near not not not not not 1;far - - - - - 1;", 1);
        faultAt(25, "near not not not not not not 1;far 1;");
        answers("near 1;far ((((( 1 )))));", 1);
        faultAt(10, "near ((((((1))))));far 1;");
        faultAt(10, "near ------1;far 1;");
        answers("near not(not(-1));far 1;", 1);
        faultAt(14, "near not(not(-(1)));far 1;");
        faultAt(14, "near not(not(--1));far 1;");
        answers("near not(not(-1)) or (((((1)))));far 1;", 1);
        faultAt(29, "near not not not not not 1 < (2);far 1;");
        answers("near not not not not not 1 or (2);far 1;", 1);
        answers("near -----1*(2);far 1;", 1);
        answers("near - 1 - - 1 - - - - - - 1;far 1;", 1);
        faultAt(21, "near - 1 - - - - - - - 1;far 1;");
        answers("near ((((1)+(2))));far 1;", 1);
        faultAt(10, "near (((((-1)))));far 1;");
        faultAt(17, "near ((((not 1 - -1))));far 1;");
        answers("near ((((not 1 and -1))));far 1;", 1);
    }

    private static void faultAt(int place, String text) {
        StepsBeyond x = new StepsBeyond();
        Due.is("text of " + text, Due.text(x, text), -100 - place);
        Due.is("the tape is empty after a fault", x.count(8), 0);
        Due.is("no text came", x.count(6), 1);
    }

    private static void answers(String text, int due) {
        StepsBeyond x = new StepsBeyond();
        Due.is("text of " + text, Due.text(x, text), due);
        Due.is("the tape is empty then", x.count(8), 0);
        Due.is("a text came", x.count(6), 2);
    }

    private static void values() {
        farIs("7", 7);
        farIs("2 + 3 * 4 - 5", 9);
        farIs("20 - 3 - 4", 13);
        farIs("( 20 - 3 ) - ( 4 - 9 )", 22);
        farIs("- 3 * - 4", 12);
        farIs("- ( 3 - 13 ) + 1", 11);
        farIs("not 0 + 5", 0);
        farIs("( not 0 ) + 5", 6);
        farIs("not not 7", 1);
        farIs("not 1 = 2", 1);
        farIs("4 or 0", 1);
        farIs("0 or 0", 0);
        farIs("4 and 2", 1);
        farIs("4 and 0", 0);
        farIs("1 or 1 and 0", 1);
        farIs("( 1 or 1 ) and 0", 0);
        farIs("0 and 0 or 1", 1);
        farIs("3 < 4", 1);
        farIs("4 < 4", 0);
        farIs("2 + 2 = 2 * 2", 1);
        farIs("- 1 < 0", 1);
        farIs("( 2 < 3 ) * 30 + ( 3 = 3 ) * 4", 34);
        farIs("0010 + 1", 11);
        // 2 to the 31st and to the 32nd
        farIs("4096 * 4096 * 128 < 0", 1);
        farIs("4096 * 4096 * 128 * 2 = 0", 1);
        farIs("4096 * 4096 * 128 - 1 + 1", 0);
        farIs("4096 * 4096 * 128 - 1", 50);
        farIs("huts + apart + side", 0);
        farIs("loaf", 0);
        deepest();
    }

    /** As many values wait at once as ever can; each depth passes on whether the next one is 1. */
    private static void deepest() {
        String ahead = "0 or 1 and 1=0+1*";
        for (int inmost = 0; inmost < 3; inmost++) {
            String far = "" + inmost;
            for (int depth = 0; depth < 6; depth++) {
                far = depth == 0 ? ahead + far : ahead + "(" + far + ")";
            }
            farIs(far, inmost == 1 ? 1 : 0);
        }
    }

    private static void farIs(String far, int due) {
        StepsBeyond x = new StepsBeyond();
        Due.is("text of far " + far, Due.text(x, "near 1;far " + far + ";"), 1);
        x.force(1);
        Due.is("far " + far, x.far(0), due);
    }

    private static void full() {
        StepsBeyond x = new StepsBeyond();
        for (int t = 1; t < 6; t++) {
            Due.is("text " + t, Due.text(x, "near 1;far " + t + ";"), t);
        }
        Due.is("FULL of an empty tape", x.text(), StepsBeyond.FULL);
        Due.is("FULL is ahead of the fault", Due.text(x, "oops"), StepsBeyond.FULL);
        Due.is("the tape stays", x.count(8), 4);
        Due.is("count(6)", x.count(6), 6);
        for (int t = 1; t < 6; t++) {
            Due.is("force(" + t + ")", x.force(t), t - 1);
            Due.is("far of " + t, x.far(1), t);
        }
    }

    private static void force() {
        StepsBeyond x = new StepsBeyond();
        Due.is("force(1) ahead of it", x.force(1), StepsBeyond.BAD);
        Due.is("force(-1)", x.force(-1), StepsBeyond.BAD);
        Due.is("force(0)", x.force(0), 0);
        x.house(0, 1);
        x.house(1599, 1);
        Due.is("text", Due.text(x, "near huts=2 and apart=39*39*2 and side=78 and houses=2 and not loaf and ravines;far 0;"), 1);
        Due.is("not yet the law", x.count(7), 0);
        Due.is("town by text 0", x.town(0), 1);
        Due.is("force(1)", x.force(1), 0);
        Due.is("count(7)", x.count(7), 1);
        Due.is("without a ravine", x.town(0), 1);
        x.ravine(1, 20, 0, 0, 1);
        Due.is("with a ravine", x.town(0), 3);
        x.house(7, 0);
        Due.is("with a third house", x.near(0, 1), 0);
        Due.is("force(2)", x.force(2), StepsBeyond.BAD);
        Due.is("still the law", x.force(0), 1);
    }
}
