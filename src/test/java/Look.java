import java.util.ArrayList;
import java.util.List;

/**
 * All that can be asked of an object, as one row of answers: two objects whose rows are alike can't be told from one
 * another by what this asks. It changes the object (what can be seen only so comes last), so it is the object's end.
 */
final class Look {
    /** More calls than one look ever makes: what is left of an object's 512 is for building it. */
    static final int CALLS = 330;

    private final StepsBeyond x;
    private final List<Integer> answers = new ArrayList<>();
    private final int[] sorts = new int[4];
    private int calls = 0;

    private Look(StepsBeyond x) {
        this.x = x;
    }

    static List<Integer> at(StepsBeyond x) {
        Look look = new Look(x);
        look.counts();
        look.houses();
        look.shapes();
        look.people();
        look.ways();
        look.sheets();
        look.tapeAndLoaf();
        look.cells();
        look.image();
        if (look.calls > CALLS) {
            throw new IllegalStateException("a look takes " + look.calls + " calls");
        }
        return look.answers;
    }

    private int tell(int answer) {
        calls++;
        answers.add(answer);
        return answer;
    }

    private void counts() {
        for (int what = 0; what < 9; what++) {
            tell(x.count(what));
        }
        tell(x.far(0));
        tell(x.far(1));
    }

    private void houses() {
        for (int h = 0; h < 20; h++) {
            tell(x.town(h));
            tell(x.burn(h));
            tell(x.taken(h, 6));
        }
    }

    private void shapes() {
        for (int s = 0; s < 12; s++) {
            for (int what = 0; what < 5; what++) {
                tell(x.shapeTold(s, what));
            }
            tell(x.size(s));
        }
    }

    private void people() {
        for (int i = 0; i < 8; i++) {
            for (int what = 0; what < 3; what++) {
                tell(x.personTold(i, what));
            }
            tell(x.wells(i, 9999));
            tell(x.wells(i, 20));
        }
    }

    private void ways() {
        int[][] ends = {{0, 1599}, {39, 1560}, {0, 39}, {0, 1560}, {819, 820}, {780, 820}};
        for (int[] pair : ends) {
            tell(x.steps(pair[0], pair[1]));
        }
    }

    /** Sorts, and lengths by halves: copying a row's beginning to itself is answered as long as it is that long. */
    private void sheets() {
        for (int s = 0; s < 4; s++) {
            sorts[s] = -1;
            for (int sort = 0; sort < 3; sort++) {
                if (tell(x.houses(s, sort, 0, 0)) == 0) {
                    sorts[s] = sort;
                }
            }
            int length = 0;
            for (int half = 32; half > 0; half /= 2) {
                if (tell(x.copy(s, 0, s, 0, length + half)) >= 0) {
                    length += half;
                }
            }
        }
    }

    private void tapeAndLoaf() {
        tell(x.loaf(1));
        int t = tell(x.text());
        tell(x.count(8));
        tell(x.force(t));
        tell(x.far(0));
        for (int h = 0; h < 20; h++) {
            tell(x.hut(h, 0));
        }
    }

    /** The first three pairs of each row, as houses that they make (as long as there is room for houses). */
    private void cells() {
        for (int s = 0; s < 4; s++) {
            for (int k = 0; k < 3 && sorts[s] >= 0; k++) {
                if (tell(x.houses(s, sorts[s], 2 * k, 1)) == 1) {
                    int h = tell(x.count(0)) - 1;
                    tell(x.taken(h, 6));
                    tell(x.hut(h, 0));
                }
            }
        }
    }

    private void image() {
        tell(x.back());
        tell(x.count(7));
        tell(x.loaf(2));
        for (int h = 0; h < 20; h++) {
            tell(x.hut(h, 1));
        }
        for (int i = 0; i < 8; i++) {
            tell(x.personTold(i, 0));
        }
    }
}
