/** Promises 31, 35, 36: bell, right, box. */
public final class BellBoxTest {
    private static final String TOWN = "places 4;lane 0 1 3;lane 1 2 4;lane 1 3 5;chance 2 2;chance 3 3;";

    private BellBoxTest() {
    }

    public static void main(String[] args) {
        bell();
        ties();
        zero();
        right();
        box();
        Check.close("BellBoxTest");
    }

    private static void at(HiddenBarrel x, int minutes, int... want) {
        for (int what = 0; what < want.length; what++) {
            Check.due("bell at " + minutes + ", " + what, x.bell(0, minutes, what), want[what]);
        }
        Check.due("bell at " + minutes + ", " + want.length, x.bell(0, minutes, want.length), -1);
    }

    private static void bell() {
        HiddenBarrel x = Check.with(TOWN);
        at(x, 0, 0, 0, 0);
        at(x, 7, 0, 0, 0);
        at(x, 8, 24, 8, 4, 2);
        at(x, 9, 36, 9, 8, 3);
        at(x, 17, 36, 9, 8, 3);
        at(x, 18, 60, 18, 12, 2, 3);
        at(x, 999, 60, 18, 12, 2, 3);
        at(x, 0, 0, 0, 0);
        at(x, 8, 24, 8, 4, 2);
        Check.due("1000 minutes", x.bell(0, 1000, 0), -1);
        Check.due("-1 minutes", x.bell(0, -1, 0), -1);
        Check.due("MIN minutes", x.bell(0, Integer.MIN_VALUE, 1), -1);
        Check.due("bell -1", x.bell(0, 18, -1), -1);
        Check.due("bell MIN", x.bell(0, 18, Integer.MIN_VALUE), -1);
        Check.due("bell 11", x.bell(0, 18, 11), -1);
        Check.due("bell MAX", x.bell(0, 18, Integer.MAX_VALUE), -1);
        Check.due("bell of town 1", x.bell(1, 18, 0), -1);
        Check.due("bell of town -1", x.bell(-1, 18, 0), -1);
        HiddenBarrel y = Check.with("places 3;lane 0 1 3;lane 0 2 3;chance 1 9;chance 2 2;dog 1 2;dig 1 9;dig 2 8;");
        at(y, 10, 0, 0, 0);
        at(y, 11, 24, 11, 4, 2);
        at(y, 12, 24, 11, 4, 2);
        at(y, 25, 24, 11, 4, 2);
        at(y, 26, 42, 26, 6, 1, 2);
    }

    /** Of several the fewest minutes; then the least set; then the least row. */
    private static void ties() {
        at(Check.with("places 3;lane 0 1 3;lane 0 2 2;chance 1 4;chance 2 4;"), 4, 48, 3, 4, 2);
        at(Check.with("places 3;lane 0 1 3;lane 0 2 3;chance 1 4;chance 2 4;"), 4, 48, 4, 2, 1);
        at(Check.with("places 3;lane 0 1 3;lane 0 2 3;chance 1 4;chance 2 4;"), 11, 96, 11, 6, 1, 2);
        at(Check.with("places 3;lane 0 1 3;lane 0 2 2;chance 1 4;chance 2 4;"), 11, 96, 9, 6, 2, 1);
        at(Check.with("places 4;lane 0 1 3;lane 0 2 3;lane 0 3 3;chance 1 4;chance 2 4;chance 3 4;"), 11, 96, 11, 6, 1, 2);
        at(Check.with("places 4;lane 0 1 3;lane 0 2 3;lane 0 3 2;chance 1 2;chance 2 2;chance 3 4;"), 8, 48, 3, 8, 3);
        at(Check.with("places 3;lane 0 1 3;lane 0 2 2;chance 1 6;chance 2 4;dog 1 2;dog 2 3;dig 1 1;dig 2 2;"), 4, 12, 4, 2, 1);
    }

    /** Place 0 may be one of them, at once or on the way. */
    private static void zero() {
        at(Check.with("places 2;lane 0 1 3;chance 0 5;"), 0, 0, 0, 0);
        at(Check.with("places 2;lane 0 1 3;chance 0 5;"), 1, 60, 1, 1, 0);
        at(Check.with("places 2;lane 0 1 3;chance 0 5;chance 1 1;dig 0 9;"), 9, 60, 9, 1, 0);
        at(Check.with("places 2;lane 0 1 3;chance 0 5;chance 1 1;dig 0 9;"), 13, 72, 13, 3, 0, 1);
        at(Check.with("places 3;lane 0 1 3;lane 0 2 3;chance 0 5;chance 1 1;chance 2 1;"), 12, 84, 12, 7, 0, 1, 2);
    }

    private static void right() {
        HiddenBarrel x = Check.with(TOWN);
        Check.due("2 * 12 + 3 * 12", x.right(0, 12, 4), 60);
        Check.due("a box that always lies", x.right(0, 0, 4), 60);
        Check.due("3 * 6 + 3 * 6", x.right(0, 6, 4), 36);
        Check.due("3 * 10 + 2 * 10", x.right(0, 10, 8), 50);
        Check.due("2 * 10 + 3 * 10", x.right(0, 10, 4), 50);
        Check.due("3 * 8 + 2 * 8", x.right(0, 8, 8), 40);
        Check.due("3 * 7 + 3 * 5", x.right(0, 7, 8), 36);
        Check.due("none named", x.right(0, 9, 0), 36);
        Check.due("all named", x.right(0, 9, 15), 36);
        Check.due("both cellars named", x.right(0, 12, 12), 36);
        Check.due("h 13", x.right(0, 13, 4), -1);
        Check.due("h -1", x.right(0, -1, 4), -1);
        Check.due("h MAX", x.right(0, Integer.MAX_VALUE, 4), -1);
        Check.due("set 16", x.right(0, 12, 16), -1);
        Check.due("set 20", x.right(0, 12, 20), -1);
        Check.due("set -1", x.right(0, 12, -1), -1);
        Check.due("set MIN", x.right(0, 12, Integer.MIN_VALUE), -1);
        Check.due("set MAX", x.right(0, 12, Integer.MAX_VALUE), -1);
        Check.due("right of town 1", x.right(1, 12, 4), -1);
        Check.due("right of town -1", x.right(-1, 12, 4), -1);
    }

    private static void box() {
        HiddenBarrel x = Check.with(TOWN);
        int[] want = {4, 4, 4, 4, 4, 0, 0, 0, 4, 4, 4, 4, 4};
        for (int h = 0; h <= 12; h++) {
            Check.due("box " + h, x.box(0, h), want[h]);
        }
        Check.due("box 13", x.box(0, 13), -1);
        Check.due("box -1", x.box(0, -1), -1);
        Check.due("box MIN", x.box(0, Integer.MIN_VALUE), -1);
        Check.due("box of town 1", x.box(1, 5), -1);
        Check.due("box of town -1", x.box(-1, 5), -1);
        HiddenBarrel y = Check.with("places 8;lane 0 1 1;lane 0 2 1;lane 0 3 1;lane 0 4 1;lane 0 5 1;lane 0 6 1;lane 0 7 1;"
                + "chance 7 9;chance 6 8;chance 0 1;");
        Check.due("9 and 8", y.box(0, 12), 64);
        Check.due("17 * 12", y.right(0, 12, 64), 204);
        HiddenBarrel two = Check.with("places 2;lane 0 1 1;chance 0 4;chance 1 4;");
        Check.due("place 0 alone is named", two.box(0, 12), 1);
        HiddenBarrel one = Check.with("places 2;lane 0 1 1;chance 1 9;");
        Check.due("one cellar", one.box(0, 12), 0);
    }
}
