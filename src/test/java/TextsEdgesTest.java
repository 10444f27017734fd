import java.util.ArrayList;
import java.util.Arrays;
import java.util.List;

/** The boundary cases of promises 8 to 10 and of what the terms say of THE TAPE, TOKENS, TEXTS, E, FAULT. */
public final class TextsEdgesTest {
    private static final String[] NAMES = {"apart", "side", "huts", "houses", "loaf", "ravines"};
    private static final String[] KEYS = {"near", "far", "or", "and", "not"};
    private static final String[] SIGNS = {"(", ")", ";", "+", "-", "*", "<", "="};
    /** What may begin a ONE, what may begin a NOT, and what may be while 5 are open. */
    private static final String INMOST = "apart side huts houses loaf ravines 7";
    private static final String ONE = INMOST + " ( -";
    private static final String NOT = ONE + " not";
    /** What may come behind a ONE, and behind what has been compared. */
    private static final String BEHIND = "or and + - * < =";
    private static final String COMPARED = "or and + - *";

    public static void main(String[] args) {
        feed();
        feedNumbers();
        feedToTheEnd();
        feedBytes();
        everyByte();
        wordsAndNumbers();
        everyTokenEverywhere();
        everyTokenWhileFiveAreOpen();
        endsTooEarly();
        theFirstFault();
        openOnes();
        truth();
        wrapping();
        order();
        asManyWaitAsCan();
        fullTapes();
        text();
        textsFull();
        force();
        Due.end();
    }

    // ---- feed

    private static void feed() {
        Script.run("8: BAD: n not 1 .. 8", """
            feed(0, 0) = BAD
            feed(0, -1) = BAD
            feed(0, 9) = BAD
            feed(0, MIN) = BAD
            feed(0, MAX) = BAD
            feed(MIN, 0) = BAD
            feed(MAX, 9) = BAD
            count(8) = 0
            feed(MIN, 1) = 1
            feed(MAX, 8) = 9
            feed(-1, 8) = 17
            feed(0, 1) = 18
            feed(0, 2) = 20
            feed(0, 3) = 23
            feed(0, 4) = 27
            feed(0, 5) = 32
            feed(0, 6) = 38
            feed(0, 7) = 45
            feed(0, 8) = 53
            count(8) = 53
            feed(0, 9) = BAD
            count(8) = 53
            """);
    }

    private static void feedNumbers() {
        Script.run("8: The n lowest bytes of w, the highest first: the others don't matter.", """
            feed(0x800000000000006e, 1) = 1
            feed(0x7fffffffffff6561, 2) = 3
            feed(0xffffffffff722031, 3) = 6
            feed(0x800000003b666172, 4) = 10
            feed(0xffffff20323b0a20, 5) = 15
            text() = 1
            force(1) = 0
            far(0) = 2
            feed(0x80006e6561722031, 6) = 6
            feed(0x7f3b66617220343b, 7) = 13
            text() = 2
            force(2) = 1
            far(0) = 4
            feed(0x6e65617220313b66, 8) = 8
            feed(0x6172203120202039, 8) = 16
            feed(0xff3b, 1) = 17
            text() = -115
            feed(MIN, 8) = 8
            text() = -100
            feed(MIN, 7) = 7
            text() = -100
            feed(MAX, 8) = 8
            text() = -100
            feed(0x2000000000000000, 8) = 8
            text() = -101
            feed(0x2020202020202080, 8) = 8
            text() = -107
            """);
    }

    private static void feedToTheEnd() {
        for (int n = 1; n <= 8; n++) {
            Script.run("THE TAPE (160 bytes at most), by " + n, """
                feed "%s"
                feed(0x2020202020202020, %d) = 160
                count(8) = 160
                feed(0, 1) = FULL
                feed(0, %d) = FULL
                feed(0, 0) = BAD
                feed(0, 9) = BAD
                count(8) = 160
                text() = -260
                feed(0, 1) = 1
                """.formatted(" ".repeat(160 - n), n, n));
            Script.run("8: FULL: beyond 160 bytes, by " + n, """
                feed "%s"
                feed(0, %d) = FULL
                count(8) = %d
                feed(0, 9) = BAD
                text() = %d
                """.formatted(" ".repeat(161 - n), n, 161 - n, n - 261));
        }
    }

    /** What feed takes apart, text() reads together. */
    private static void feedBytes() {
        String text = "near apart<50 and not huts=2;far 12-loaf*4;";
        for (int n = 1; n <= 8; n++) {
            StepsBeyond x = new StepsBeyond();
            for (int from = 0; from < text.length(); from += n) {
                long w = 0x7a;
                int to = Math.min(text.length(), from + n);
                for (int i = from; i < to; i++) {
                    w = w << 8 | text.charAt(i);
                }
                Due.is("feed by " + n, x.feed(w, to - from), to);
            }
            Due.is("text fed by " + n, x.text(), 1);
        }
    }

    // ---- TOKENS

    private static void everyByte() {
        for (int b = 0; b < 256; b++) {
            char c = (char) b;
            boolean blank = b == 32 || b == 10;
            boolean letter = b >= 97 && b <= 122;
            boolean digit = b >= 48 && b <= 57;
            boolean joins = "+-*<=;".indexOf(c) >= 0;
            boolean opens = "-(".indexOf(c) >= 0;
            ends("" + c, blank ? 1 : 0);
            ends("near" + c, letter ? 0 : blank || digit || opens ? 5 : 4);
            ends("near apart" + c, letter ? 5 : blank || joins ? 11 : 10);
            ends("near 12" + c, blank || joins || digit ? 8 : 7);
            ends("near 1234" + c, blank || joins ? 10 : digit ? 5 : 9);
            ends("near 1;far 1" + c, c == ';' ? -1 : blank || digit || joins ? 13 : 12);
            ends("near 1;far 1;" + c, blank ? -1 : 13);
            ends("near 1" + c + ";far 1;", blank || digit ? -1 : c == ';' ? 7 : joins ? 7 : 6);
        }
    }

    private static void wordsAndNumbers() {
        List<String> words = new ArrayList<>(Arrays.asList(NAMES));
        words.addAll(Arrays.asList(KEYS));
        for (String word : words) {
            ends(" " + word + word, 1);
            ends(" " + word + "s", 1);
            ends(" s" + word, 1);
            ends(" " + word.substring(1), 1);
            ends(" " + word.substring(0, word.length() - 1), 1);
            ends("near " + word.toUpperCase(), 5);
            for (int i = 0; i < word.length(); i++) {
                char other = word.charAt(i) == 'x' ? 'y' : 'x';
                ends("near " + word.substring(0, i) + other + word.substring(i + 1), 5);
            }
            ends("near " + word.substring(0, word.length() - 1), 5);
            ends("near " + word + "a", 5);
            ends("near " + word + "z", 5);
        }
        ends("near " + "a".repeat(155), 5);
        for (int digits = 1; digits <= 20; digits++) {
            ends("near " + "9".repeat(digits) + ";far 1;", digits <= 4 ? -1 : 5);
            ends("near " + "0".repeat(digits) + ";far 1;", digits <= 4 ? -1 : 5);
            ends("near 1;far 1" + "0".repeat(digits - 1) + ";", digits <= 4 ? -1 : 11);
        }
        ends("near " + "1".repeat(155), 5);
        // a number's digits wrap around to a small one
        ends("near 4294967297;far 1;", 5);
        ends("near 1 2;far 1;", 7);
        ends("near ap art;far 1;", 5);
        ends("near1or2and3;far4<5;", -1);
        ends("nearapart;far 1;", 0);
        ends("near 1or2orapart;far 1;", 9);
    }

    // ---- which TOKEN can stand where

    private static void everyTokenEverywhere() {
        stands("", "near");
        for (String half : new String[] {"near", "near 1 ; far"}) {
            String end = BEHIND + " ;";
            stands(half, NOT);
            stands(half + " 1", end);
            stands(half + " apart", end);
            stands(half + " 1 or", NOT);
            stands(half + " 1 and", NOT);
            stands(half + " not", NOT);
            stands(half + " not not", NOT);
            stands(half + " not 1", end);
            stands(half + " not 1 =", ONE);
            stands(half + " not 1 = 2", COMPARED + " ;");
            stands(half + " -", ONE);
            stands(half + " - -", ONE);
            stands(half + " - 1", end);
            for (String sign : new String[] {"+", "-", "*", "<", "="}) {
                stands(half + " 1 " + sign, ONE);
                stands(half + " ( 1 ) " + sign, ONE);
            }
            stands(half + " 1 < 2", COMPARED + " ;");
            stands(half + " 1 = 2 * 3 + 4", COMPARED + " ;");
            stands(half + " 1 < 2 or 3", end);
            stands(half + " 1 < 2 and 3", end);
            stands(half + " (", NOT);
            stands(half + " ( 1", BEHIND + " )");
            stands(half + " ( 1 < 2", COMPARED + " )");
            stands(half + " ( ( 1 )", BEHIND + " )");
            stands(half + " ( 1 )", end);
            stands(half + " 1 = ( 2 < 3 )", COMPARED + " ;");
        }
        stands("near 1 ;", "far");
        stands("near 1 ; far 1 ;", "");
    }

    private static void everyTokenWhileFiveAreOpen() {
        stands("near ( ( ( (", NOT);
        stands("near ( ( ( ( (", INMOST);
        stands("near not not not not", NOT);
        stands("near not not not not not", INMOST);
        stands("near - - - -", ONE);
        stands("near - - - - -", INMOST);
        stands("near ( not ( -", ONE);
        stands("near ( not ( - (", INMOST);
        stands("near ( not ( - -", INMOST);
        // what is between two ONES is no - ahead of a ONE
        stands("near ( ( ( ( ( 1", BEHIND + " )");
        stands("near ( ( ( ( ( 1 -", INMOST);
        stands("near ( ( ( ( ( 1 or", INMOST);
        stands("near ( ( ( ( ( 1 and", INMOST);
        // a ( till its )
        stands("near ( ( ( ( ( 1 ) and", NOT);
        stands("near ( ( ( ( ( 1 ) *", ONE);
        stands("near ( ( ( ( ( 1 ) ) ) ) ) =", ONE);
        // not till its NOT ends, which a < or = goes on with
        stands("near ( ( ( ( not 1 <", INMOST);
        stands("near ( ( ( ( not 1 < 2 +", INMOST);
        stands("near ( ( ( ( not 1 *", INMOST);
        stands("near ( ( ( ( not 1 or", NOT);
        stands("near ( ( ( ( not 1 < 2 and", NOT);
        stands("near not not not not not 1 =", INMOST);
        stands("near not not not not not 1 = 2 or", NOT);
        // - till its ONE ends
        stands("near ( ( ( ( - 1 *", ONE);
        stands("near ( ( ( ( - 1 -", ONE);
        stands("near - - - - - 1 *", ONE);
        stands("near not - - - - 1 <", ONE);
        stands("near - ( - ( - 1 + 2 ) *", ONE);
        // nothing stays open from near to far
        stands("near - - - - - 1 ; far", NOT);
        stands("near not not not not not 1 ; far", NOT);
    }

    /** Of all TOKENS just those told can stand behind a beginning of a text. */
    private static void stands(String ahead, String told) {
        List<String> may = Arrays.asList(told.split(" "));
        List<String> tokens = new ArrayList<>(Arrays.asList(NAMES));
        tokens.addAll(Arrays.asList(KEYS));
        tokens.addAll(Arrays.asList(SIGNS));
        tokens.add("7");
        for (String token : tokens) {
            String text = ahead + " " + token;
            boolean whole = ahead.startsWith("near 1 ; far") && token.equals(";") && may.contains(token);
            ends(text, whole ? -1 : may.contains(token) ? text.length() : ahead.length() + 1);
        }
    }

    private static void endsTooEarly() {
        String whole = "near not apart < 50 and huts * ( 2 - - side ) = 1 or loaf + 3 ; far ( houses ) - ravines ;";
        String[] tokens = whole.split(" ");
        String text = "";
        for (int i = 0; i < tokens.length; i++) {
            ends(text, text.length());
            ends(text + "\n  ", text.length() + 3);
            text += (i == 0 ? "" : " ") + tokens[i];
        }
        ends(text, -1);
        ends("\n " + text + " \n", -1);
        ends(whole.replace("not ", "not\n").replace(" and ", "\nand\n"), -1);
    }

    private static void theFirstFault() {
        // what can't be read behind the first that can't stand there does not matter
        ends("near 1 1 $", 7);
        ends("near $ 1 1", 5);
        ends("near 1 12345 ((((((", 7);
        ends("near foo $", 5);
        ends("$near", 0);
        ends("near ((((((1 $", 10);
        ends("near (((((1 $ (", 12);
        ends("far 1;near 1;", 0);
        ends("near 1;near 1;", 7);
        ends("near 1;far 1;near 1;", 13);
        ends("near;far 1;", 4);
        ends("near 1;far;", 10);
        ends("near 1 far 1;", 7);
        ends("near 1;;far 1;", 7);
        ends(";", 0);
    }

    private static void openOnes() {
        for (int open = 1; open <= 8; open++) {
            ends("near " + "(".repeat(open) + "1" + ")".repeat(open) + ";far 1;", open <= 5 ? -1 : 10);
            ends("near " + "-".repeat(open) + "1;far 1;", open <= 5 ? -1 : 10);
            ends("near " + "not ".repeat(open) + "1;far 1;", open <= 5 ? -1 : 25);
            ends("near 1;far 1-" + "-".repeat(open) + "1;", open <= 5 ? -1 : 18);
            ends("near 1;far 1*" + "(".repeat(open) + "1" + ")".repeat(open) + ";", open <= 5 ? -1 : 18);
        }
        // one behind another, never more than one open
        ends("near (1)+(2)+(3)+(4)+(5)+(6)+(7)+(8);far -1-1--1--1--1--1--1--1--1;", -1);
        ends("near not 1 or not 1 or not 1 or not 1 or not 1 or not 1 or not 1;far 1;", -1);
        ends("near (((((1)))))+(((((1)))))*(((((1)))));far (((((1)))))<(((((2)))));", -1);
        ends("near (((((1)))));far ((((((1))))));", 26);
    }

    // ---- what an E comes to

    private static void truth() {
        farIs("0 or 0", 0);
        farIs("0 or 7", 1);
        farIs("7 or 0", 1);
        farIs("7 or 8", 1);
        farIs("-7 or 0", 1);
        farIs("0 and 7", 0);
        farIs("7 and 0", 0);
        farIs("1 and 2", 1);
        farIs("8 and -8", 1);
        farIs("not 0", 1);
        farIs("not 2", 0);
        farIs("not -1", 0);
        farIs("not (4096*4096*128)", 0);
        farIs("not (4096*4096*256)", 1);
        farIs("4096*4096*128 and 1", 1);
        farIs("4096*4096*256 or 0", 0);
        farIs("(7 or 8)*10+(1 and 2)", 11);
        farIs("3 < 3", 0);
        farIs("3 < 4", 1);
        farIs("4 < 3", 0);
        farIs("3 = 3", 1);
        farIs("3 = 4", 0);
        farIs("-3 < -2", 1);
        farIs("-2 < -3", 0);
        farIs("0000 = 0", 1);
        farIs("9999 = 9998+1", 1);
        farIs("0049", 49);
    }

    private static void wrapping() {
        String least = "4096*4096*128";
        String greatest = "(4096*4096*128-1)";
        farIs(greatest + "+1 = " + least, 1);
        farIs(greatest + "+1 < 0", 1);
        farIs(greatest + "+" + greatest + " = -2", 1);
        farIs(greatest + "+" + greatest + "+50", 48);
        farIs(least + "-1 = " + greatest, 1);
        farIs(least + "-1", 50);
        farIs("0-" + least + " < 0", 1);
        farIs("-(" + least + ") = " + least, 1);
        farIs("-(" + least + ")", 0);
        farIs("-" + greatest + "-2 = " + greatest, 1);
        farIs(least + "+" + least, 0);
        farIs(least + "+" + least + "+7", 7);
        farIs(least + "*2+9", 9);
        farIs(least + "*-1 = " + least, 1);
        farIs(greatest + "*2", 0);
        farIs(greatest + "*" + greatest + "+4", 5);
        // 999700029999 is 232 * 4294967296 + 3267617327, which is -1027349969 as an int
        farIs("9999*9999*9999 < 0", 1);
        farIs("9999*9999*9999 = -(1027*1000*1000+349*1000+969)", 1);
        farIs(least + " < " + greatest, 1);
        farIs(greatest + " < " + least, 0);
        farIs(greatest + " < -1", 0);
        farIs(least + " < 1", 1);
        farIs("46*1000+341 < (46*1000+341)*(46*1000+341)", 0);
        farIs("46*1000+340 < (46*1000+340)*(46*1000+340)", 1);
        farIs("(64*1024)*(64*1024)+3", 3);
    }

    private static void order() {
        farIs("20-10-5", 5);
        farIs("20-(10-5)", 15);
        farIs("2+3*4", 14);
        farIs("(2+3)*4", 20);
        farIs("-2*-3", 6);
        farIs("10--3", 13);
        farIs("-3+10", 7);
        farIs("-(3+10)+20", 7);
        farIs("1 or 0 and 0", 1);
        farIs("(1 or 0) and 0", 0);
        farIs("not 0 and 0", 0);
        farIs("not (0 and 0)", 1);
        farIs("not 0 or 1", 1);
        farIs("not (0 or 1)", 0);
        farIs("not 5 < 3", 1);
        farIs("(not 5) < 3", 1);
        farIs("not 1 = 0", 1);
        farIs("(not 1) = 1", 0);
        farIs("not 3+1", 0);
        farIs("(not 3)+1", 1);
        farIs("1 + 1 < 3", 1);
        farIs("1 + (1 < 3)", 2);
        farIs("4 < 1 + 4", 1);
        farIs("3 = 1 + 2 and 2 * 2 = 4", 1);
    }

    /** One value waits for each of or, and, =, +, * inside each of five ( : no text can make more of them wait. */
    private static void asManyWaitAsCan() {
        for (int inmost = 0; inmost < 3; inmost++) {
            String far = "0 or 1 and 1=0+1*" + inmost;
            for (int open = 1; open <= 5; open++) {
                far = "0 or 1 and 1=0+1*(" + far + ")";
            }
            farIs(far, inmost == 1 ? 1 : 0);
        }
    }

    private static void fullTapes() {
        String blanks = " ".repeat(160);
        ends(("near 1;far 2" + blanks).substring(0, 159) + ";", -1);
        ends(("near 1;far 2;" + blanks).substring(0, 160), -1);
        ends(("near 1;far 2;" + blanks).substring(0, 159) + "x", 159);
        ends(("near 1;far 2" + blanks).substring(0, 160), 160);
        ends(blanks, 160);
        ends("near " + "1+".repeat(74) + "1;far1;", -1);
        ends("near " + "1+".repeat(77) + "1", 160);
        farIs("1+".repeat(48) + "1", 49);
        farIs("1-1+".repeat(35) + "1", 1);
        farIs("not " + "0 or ".repeat(26) + "0", 1);
        // as many codes as a tape can tell: each sign and each number one byte
        StepsBeyond x = new StepsBeyond();
        Due.is("a full tape", Due.text(x, "near1;far" + "1*".repeat(74) + "33;"), 1);
        x.force(1);
        Due.is("its far", x.far(0), 33);
    }

    // ---- text, force

    private static void text() {
        Script.run("9: THE TAPE, which is empty then", """
            text() = -100
            count(8) = 0
            text "near 1;far 2;" = 1
            count(8) = 0
            text() = -100
            text "near" = -104
            count(8) = 0
            count(6) = 2
            text "near 1;far 3;" = 2
            count(6) = 3
            count(7) = 0
            far(0) = 12
            feed "near 1;"
            count(8) = 7
            feed "far 4;"
            count(8) = 13
            text() = 3
            force(3) = 0
            far(0) = 4
            """);
    }

    private static void textsFull() {
        Script.run("9: TEXTS, 6 at most. FULL (ahead of the FAULT; then THE TAPE stays).", """
            text "near 1;far 1;" = 1
            text "near 1;far 2;" = 2
            text "near 1;far 3;" = 3
            text "near 1;far 4;" = 4
            force(5) = BAD
            text "$" = -100
            text "near 1;far 5;" = 5
            count(6) = 6
            count(8) = 0
            text() = FULL
            text "near 1;far 6;" = FULL
            count(8) = 13
            text() = FULL
            count(8) = 13
            feed "$"
            text() = FULL
            count(8) = 14
            count(6) = 6
            force(6) = BAD
            force(5) = 0
            far(0) = 5
            force(1) = 5
            far(0) = 1
            """);
    }

    private static void force() {
        Script.run("10: which was. BAD.", """
            force(-1) = BAD
            force(1) = BAD
            force(MIN) = BAD
            force(MAX) = BAD
            force(6) = BAD
            count(7) = 0
            force(0) = 0
            text "near 1;far" = -110
            force(1) = BAD
            text "near 1;far 9;" = 1
            force(2) = BAD
            force(1) = 0
            force(2) = BAD
            far(0) = 9
            force(1) = 1
            force(-1) = BAD
            far(0) = 9
            force(0) = 1
            far(0) = 12
            """);
    }

    // ---- what several share

    /** The text, fed to a new object, has its FAULT there; -1: it has none. */
    private static void ends(String text, int fault) {
        StepsBeyond x = new StepsBeyond();
        Due.is("text of " + text, Due.text(x, text), fault < 0 ? 1 : -100 - fault);
        Due.is("behind " + text + ": the tape is empty", x.count(8), 0);
        Due.is("behind " + text + ": so many texts", x.count(6), fault < 0 ? 2 : 1);
        Due.is("behind " + text + ": the law stays", x.count(7), 0);
    }

    private static void farIs(String far, int due) {
        StepsBeyond x = new StepsBeyond();
        Due.is("text of far " + far, Due.text(x, "near 1;far " + far + ";"), 1);
        x.force(1);
        Due.is("far " + far, x.far(0), due);
    }
}
