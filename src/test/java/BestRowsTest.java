/** Promises 14 to 17: best, two, barrels, more. */
public final class BestRowsTest {
    private static final String TOWN = "places 4;lane 0 1 3;lane 1 2 4;lane 1 3 5;chance 2 2;chance 3 3;";
    /** Three cellars around place 0, each as far from it. */
    private static final String STAR = "places 4;lane 0 1 5;lane 0 2 5;lane 0 3 5;chance 1 1;chance 2 1;chance 3 1;";

    private BestRowsTest() {
    }

    public static void main(String[] args) {
        best();
        two();
        barrels();
        more();
        Check.close("BestRowsTest");
    }

    private static void best() {
        HiddenBarrel x = Check.with(TOWN);
        Check.due("3 * 8 + 2 * 17", x.best(0, 0), 58);
        Check.due("first stop", x.best(0, 1), 3);
        Check.due("second stop", x.best(0, 2), 2);
        Check.due("third stop", x.best(0, 3), -1);
        int[] wrong = {-1, -2, 9, 10, Integer.MIN_VALUE, Integer.MAX_VALUE};
        for (int what : wrong) {
            Check.due("best " + what, x.best(0, what), -1);
        }
        Check.due("best of town 1", x.best(1, 0), -1);
        Check.due("best of town -1", x.best(-1, 1), -1);
        HiddenBarrel star = Check.with(STAR);
        Check.due("5 + 15 + 25", star.best(0, 0), 45);
        for (int k = 0; k < 3; k++) {
            Check.due("of several the least row " + k, star.best(0, 1 + k), 1 + k);
        }
        HiddenBarrel zero = Check.with("places 2;lane 0 1 5;chance 0 1;");
        Check.due("place 0 alone", zero.best(0, 0), 0);
        Check.due("no stop", zero.best(0, 1), -1);
        HiddenBarrel also = Check.with("places 2;lane 0 1 5;chance 0 9;chance 1 2;dog 1 1;dig 1 50;");
        Check.due("place 0 counts 0, dogs and digging don't count", also.best(0, 0), 10);
        Check.due("place 0 is no stop", also.best(0, 1), 1);
        Check.due("one stop", also.best(0, 2), -1);
        seven();
    }

    private static void seven() {
        HiddenBarrel x = Check.with("places 8;lane 0 1 20;lane 1 2 20;lane 2 3 20;lane 3 4 20;lane 4 5 20;lane 5 6 20;"
                + "lane 6 7 20;chance 1 99;chance 2 99;chance 3 99;chance 4 99;chance 5 99;chance 6 99;chance 7 99;");
        Check.due("99 * 20 * 28", x.best(0, 0), 55440);
        for (int k = 0; k < 7; k++) {
            Check.due("stop " + k, x.best(0, 1 + k), 1 + k);
        }
        Check.due("stop 7", x.best(0, 8), -1);
    }

    private static void two() {
        HiddenBarrel x = Check.with(TOWN);
        Check.due("2 * 7 + 3 * 8", x.two(0, 0), 38);
        Check.due("the first one's", x.two(0, 1), 4);
        Check.due("the other one's", x.two(0, 2), 8);
        Check.due("two 3", x.two(0, 3), -1);
        Check.due("two -1", x.two(0, -1), -1);
        Check.due("two MIN", x.two(0, Integer.MIN_VALUE), -1);
        Check.due("two of town 1", x.two(1, 0), -1);
        HiddenBarrel star = Check.with(STAR);
        Check.due("5 + 5 + 15", star.two(0, 0), 25);
        Check.due("the least set", star.two(0, 1), 2);
        Check.due("the others", star.two(0, 2), 12);
        HiddenBarrel one = Check.with("places 3;lane 0 1 5;lane 0 2 6;chance 2 1;chance 0 3;");
        Check.due("one cellar", one.two(0, 0), 6);
        Check.due("nobody goes first", one.two(0, 1), 0);
        Check.due("the other one goes", one.two(0, 2), 4);
        HiddenBarrel row = Check.with("places 3;lane 0 1 5;lane 1 2 6;chance 1 1;chance 2 1;");
        Check.due("on one way", row.two(0, 0), 16);
        Check.due("on one way none is parted", row.two(0, 1), 0);
        Check.due("on one way all", row.two(0, 2), 6);
    }

    private static void barrels() {
        HiddenBarrel x = Check.with(TOWN);
        Check.due("till one: 6 * 7", x.barrels(0, false, 0), 42);
        Check.due("2 first", x.barrels(0, false, 1), 2);
        Check.due("then 3", x.barrels(0, false, 2), 3);
        Check.due("no more", x.barrels(0, false, 3), -1);
        Check.due("till both: 6 * 16", x.barrels(0, true, 0), 96);
        Check.due("both: 2 first", x.barrels(0, true, 1), 2);
        Check.due("both: then 3", x.barrels(0, true, 2), 3);
        Check.due("both: no more", x.barrels(0, true, 3), -1);
        int[] wrong = {-1, 9, Integer.MIN_VALUE, Integer.MAX_VALUE};
        for (int what : wrong) {
            Check.due("barrels " + what, x.barrels(0, false, what), -1);
            Check.due("both barrels " + what, x.barrels(0, true, what), -1);
        }
        Check.due("barrels of town 1", x.barrels(1, true, 0), -1);
        HiddenBarrel zero = Check.with("places 3;lane 0 1 2;lane 0 2 2;chance 0 6;chance 1 3;");
        Check.due("one is found at once", zero.barrels(0, false, 0), 0);
        Check.due("18 * 2", zero.barrels(0, true, 0), 36);
        Check.due("stop", zero.barrels(0, true, 1), 1);
        Check.due("one stop", zero.barrels(0, true, 2), -1);
        HiddenBarrel one = Check.with("places 2;lane 0 1 2;chance 1 3;");
        Check.due("one cellar", one.barrels(0, false, 0), -1);
        Check.due("one cellar, both", one.barrels(0, true, 0), -1);
        Check.due("one cellar's stop", one.barrels(0, true, 1), -1);
        three();
    }

    /** Couples 1-2: 6, 1-3: 10, 2-3: 15, in a row 0 1 2 3 with 1, 2, 3 minutes. */
    private static void three() {
        HiddenBarrel x = Check.with("places 4;lane 0 1 1;lane 1 2 2;lane 2 3 3;chance 1 2;chance 2 3;chance 3 5;");
        Check.due("6 * 1 + 10 * 1 + 15 * 3", x.barrels(0, false, 0), 61);
        Check.due("6 * 3 + 10 * 6 + 15 * 6", x.barrels(0, true, 0), 168);
        HiddenBarrel star = Check.with(STAR);
        Check.due("5 + 5 + 15", star.barrels(0, false, 0), 25);
        Check.due("15 + 25 + 25", star.barrels(0, true, 0), 65);
        Check.due("of several the least row", star.barrels(0, true, 1), 1);
        HiddenBarrel back = Check.with("places 4;lane 0 1 9;lane 0 2 2;lane 0 3 2;chance 1 1;chance 2 99;chance 3 99;");
        Check.due("2 * (99 + 9801) + 99 * 6", back.barrels(0, false, 0), 2 * 9900 + 6 * 99);
        Check.due("its first", back.barrels(0, false, 1), 2);
        Check.due("its second", back.barrels(0, false, 2), 3);
        Check.due("its third", back.barrels(0, false, 3), 1);
    }

    private static void more() {
        HiddenBarrel x = Check.with(TOWN);
        Check.due("1 * 3 + 2 * 9", x.more(0, 1, 0), 21);
        Check.due("from 0", x.more(0, 1, 1), 0);
        Check.due("to 3", x.more(0, 1, 2), 3);
        Check.due("a lane of no use", x.more(0, 20, 0), 58);
        Check.due("of several the least first one", x.more(0, 20, 1), 0);
        Check.due("then the least second one", x.more(0, 20, 2), 2);
        Check.due("more 3", x.more(0, 1, 3), -1);
        Check.due("more -1", x.more(0, 1, -1), -1);
        Check.due("0 minutes", x.more(0, 0, 0), -1);
        Check.due("21 minutes", x.more(0, 21, 0), -1);
        Check.due("-1 minutes", x.more(0, -1, 0), -1);
        Check.due("MIN minutes", x.more(0, Integer.MIN_VALUE, 0), -1);
        Check.due("more of town 1", x.more(1, 1, 0), -1);
        Check.due("no lane was built", x.about(0, 1), 3);
        Check.due("no way was changed", x.way(0, 0, 3), 8);
        HiddenBarrel all = Check.with("places 3;lane 0 1 3;lane 0 2 4;lane 2 1 5;chance 2 2;");
        Check.due("no two without a lane", all.more(0, 1, 0), -1);
        Check.due("no two without a lane, first", all.more(0, 1, 1), -1);
        HiddenBarrel star = Check.with(STAR);
        Check.due("5 + 6 + 16", star.more(0, 1, 0), 27);
        Check.due("star's first", star.more(0, 1, 1), 1);
        Check.due("star's second", star.more(0, 1, 2), 2);
        full();
    }

    /** A town of 20 lanes may well have one lane more here: that it is a 21st is no matter. */
    private static void full() {
        StringBuilder s = new StringBuilder("places 7;");
        for (int a = 0; a < 7; a++) {
            for (int b = a + 1; b < 7; b++) {
                if (a != 0 || b != 6) {
                    s.append("lane ").append(a).append(' ').append(b).append(" 9;");
                }
            }
        }
        HiddenBarrel x = Check.with(s + "chance 6 1;");
        Check.due("lanes", x.about(0, 1), 20);
        Check.due("by the 21st", x.more(0, 2, 0), 2);
        Check.due("from 0", x.more(0, 2, 1), 0);
        Check.due("to 6", x.more(0, 2, 2), 6);
        Check.due("open by the 21st", x.open(0, 2, 2), 2);
        Check.due("open to 6", x.open(0, 2, 1), 6);
    }
}
