/** What the project's tests share: compares answers, counts wrong ones, ends the test. */
final class Due {
    private static int asked = 0;
    private static int wrong = 0;

    private Due() {
    }

    static void is(String call, long got, long want) {
        asked++;
        if (got != want) {
            wrong++;
            System.out.println(call + " answered " + got + ", due is " + want);
        }
    }

    static void holds(String rule, boolean does) {
        is(rule, does ? 1 : 0, 1);
    }

    /** Feeds a text in pieces of eight bytes and a rest; its characters are 0 to 255. */
    static void feed(StepsBeyond x, String text) {
        int before = x.count(8);
        for (int from = 0; from < text.length(); from += 8) {
            int to = Math.min(text.length(), from + 8);
            long w = 0;
            for (int i = from; i < to; i++) {
                w = w << 8 | text.charAt(i);
            }
            is("feed of " + text.substring(from, to), x.feed(w, to - from), before + to);
        }
    }

    /** Feeds a text to an empty tape and reads it. */
    static int text(StepsBeyond x, String text) {
        feed(x, text);
        return x.text();
    }

    static int place(int x, int y) {
        return y * 40 + x;
    }

    static void end() {
        System.out.println(asked + " answers, " + wrong + " of them not as due");
        System.exit(wrong == 0 && asked > 0 ? 0 : 1);
    }
}
