/** Promises 19, 20, 33, 34: both, goes, guard, open. */
public final class ChancesTest {
    private static final String TOWN = "places 4;lane 0 1 3;lane 1 2 4;lane 1 3 5;chance 2 2;chance 3 3;";

    private ChancesTest() {
    }

    public static void main(String[] args) {
        both();
        goes();
        saddle();
        three();
        four();
        untold();
        guard();
        open();
        again();
        near();
        Check.close("ChancesTest");
    }

    /** Rows 2 3 and 3 2: minutes 7 16 / 17 8, so D = 7 * 8 - 17 * 16 = -216, S = -18. */
    private static void both() {
        HiddenBarrel x = Check.with(TOWN);
        Check.due("D", x.both(0, 0), 216);
        Check.due("S", x.both(0, 1), 18);
        Check.due("k", x.both(0, 2), 2);
        Check.due("C of 0", x.both(0, 10), 0);
        Check.due("C of 1", x.both(0, 11), 0);
        Check.due("C of 2", x.both(0, 12), 8);
        Check.due("C of 3", x.both(0, 13), 10);
        int[] wrong = {-1, 3, 9, 14, 17, 20, Integer.MIN_VALUE, Integer.MAX_VALUE, Integer.MIN_VALUE + 10};
        for (int what : wrong) {
            Check.due("both " + what, x.both(0, what), Check.UNTOLD);
        }
        Check.due("both of town 1", x.both(1, 0), Check.UNTOLD);
        Check.due("both of town -1", x.both(-1, 2), Check.UNTOLD);
    }

    private static void goes() {
        HiddenBarrel x = Check.with(TOWN);
        Check.due("first row", x.goes(0, 0, 0), 0);
        Check.due("its R", x.goes(0, 0, 1), 9);
        Check.due("second row", x.goes(0, 1, 0), 1);
        Check.due("its R", x.goes(0, 1, 1), 9);
        Check.due("third row", x.goes(0, 2, 0), Check.UNTOLD);
        Check.due("row -1", x.goes(0, -1, 0), Check.UNTOLD);
        Check.due("row MAX", x.goes(0, Integer.MAX_VALUE, 1), Check.UNTOLD);
        Check.due("goes 2", x.goes(0, 0, 2), Check.UNTOLD);
        Check.due("goes -1", x.goes(0, 0, -1), Check.UNTOLD);
        Check.due("goes of town 1", x.goes(1, 0, 0), Check.UNTOLD);
        Check.due("goes of town -1", x.goes(-1, 0, 0), Check.UNTOLD);
    }

    /** The farther one on the only way: one cellar, one row. */
    private static void saddle() {
        HiddenBarrel x = Check.with("places 3;lane 0 1 5;lane 1 2 6;chance 1 1;chance 2 1;");
        Check.due("saddle D", x.both(0, 0), 11);
        Check.due("saddle S", x.both(0, 1), 1);
        Check.due("saddle k", x.both(0, 2), 1);
        Check.due("saddle C of 1", x.both(0, 11), 0);
        Check.due("saddle C of 2", x.both(0, 12), 1);
        Check.due("saddle row", x.goes(0, 0, 0), 0);
        Check.due("saddle R", x.goes(0, 0, 1), 1);
        Check.due("saddle second row", x.goes(0, 1, 1), Check.UNTOLD);
        HiddenBarrel one = Check.with("places 2;lane 0 1 5;chance 1 1;chance 0 9;");
        Check.due("one cellar's D", one.both(0, 0), 5);
        Check.due("one cellar's S", one.both(0, 1), 1);
        Check.due("one cellar's C", one.both(0, 11), 1);
        Check.due("place 0's C", one.both(0, 10), 0);
        HiddenBarrel last = Check.with("places 3;lane 0 2 5;lane 2 1 6;chance 1 1;chance 2 1;");
        Check.due("the row 2 1 is number 1", last.goes(0, 0, 0), 1);
        Check.due("its D", last.both(0, 0), 11);
    }

    /** Three at the same distance. Rows 0, 1, 3 are the least that do: 0 is gone by a chance of 0. */
    private static void three() {
        HiddenBarrel x = Check.with("places 4;lane 0 1 5;lane 0 2 5;lane 0 3 5;chance 1 1;chance 2 50;chance 3 9;");
        Check.due("star D over S", x.both(0, 0), 15 * x.both(0, 1));
        Check.due("star k", x.both(0, 2), 3);
        Check.due("star C", x.both(0, 11) * 3, x.both(0, 1));
        Check.due("star C", x.both(0, 12) * 3, x.both(0, 1));
        Check.due("star C", x.both(0, 13) * 3, x.both(0, 1));
        Check.due("star row 0", x.goes(0, 0, 0), 0);
        Check.due("star row 1", x.goes(0, 1, 0), 1);
        Check.due("star row 2", x.goes(0, 2, 0), 3);
        Check.due("star R of row 0", x.goes(0, 0, 1), 0);
        Check.due("star R of row 1", x.goes(0, 1, 1) * 2, x.both(0, 1));
        Check.due("star R of row 3", x.goes(0, 2, 1) * 2, x.both(0, 1));
        Check.due("star D", x.both(0, 0), 9000);
        HiddenBarrel y = Check.with("places 4;lane 0 1 5;lane 0 2 5;lane 0 3 5;chance 0 7;chance 1 4;chance 2 2;");
        Check.due("two of the star", y.both(0, 0), 10 * y.both(0, 1));
        Check.due("two of the star, k", y.both(0, 2), 2);
    }

    /** Held against Slow, which tries every kernel with every cofactor. */
    private static void four() {
        String[] texts = {
            "places 5;lane 0 1 1;lane 0 2 2;lane 0 3 3;lane 0 4 4;chance 1 1;chance 2 1;chance 3 1;chance 4 1;",
            "places 5;lane 0 1 3;lane 1 2 20;lane 2 3 7;lane 3 4 11;lane 4 0 2;chance 1 1;chance 2 1;chance 3 1;chance 4 1;",
            "places 8;lane 0 1 20;lane 1 2 20;lane 2 3 20;lane 3 4 20;lane 2 5 20;lane 5 6 20;lane 1 7 20;"
                + "chance 4 1;chance 6 1;chance 7 1;chance 3 1;",
            "places 8;lane 0 1 1;lane 0 2 1;lane 0 3 1;lane 0 4 2;lane 4 5 9;lane 4 6 9;lane 4 7 9;lane 5 6 4;lane 6 7 4;lane 5 7 4;"
                + "chance 4 1;chance 5 1;chance 6 1;chance 7 1;",
        };
        for (String text : texts) {
            HiddenBarrel x = Check.with(text);
            Slow t = new SlowText(text).town;
            Slow.Kernel kernel = t.kernel(t.ways(), t.cellarsAway());
            Check.due("D in " + text, x.both(0, 0), kernel.d);
            Check.due("S in " + text, x.both(0, 1), kernel.s);
            Check.due("k in " + text, x.both(0, 2), kernel.k);
            for (int a = 0; a < t.places; a++) {
                Check.due("C of " + a + " in " + text, x.both(0, 10 + a), kernel.c[a]);
            }
            for (int k = 0; k < kernel.k; k++) {
                Check.due("row " + k + " in " + text, x.goes(0, k, 0), kernel.rows.get(k));
                Check.due("R " + k + " in " + text, x.goes(0, k, 1), kernel.r.get(k));
            }
        }
    }

    private static void untold() {
        HiddenBarrel zero = Check.with("places 2;lane 0 1 5;chance 0 9;");
        HiddenBarrel five = Check.with("places 6;lane 0 1 5;lane 0 2 5;lane 0 3 5;lane 0 4 5;lane 0 5 5;"
                + "chance 1 1;chance 2 1;chance 3 1;chance 4 1;chance 5 1;");
        HiddenBarrel[] both = {zero, five};
        for (HiddenBarrel x : both) {
            for (int what = 0; what < 3; what++) {
                Check.due("untold both " + what, x.both(0, what), Check.UNTOLD);
                Check.due("untold both 10 + " + what, x.both(0, 10 + what), Check.UNTOLD);
                Check.due("untold goes " + what, x.goes(0, what, 0), Check.UNTOLD);
                Check.due("untold guard " + what, x.guard(0, what), Check.UNTOLD);
                Check.due("untold open " + what, x.open(0, 1, what), Check.UNTOLD);
            }
        }
        HiddenBarrel four = Check.with("places 5;lane 0 1 5;lane 0 2 5;lane 0 3 5;lane 0 4 5;"
                + "chance 0 3;chance 1 1;chance 2 1;chance 3 1;chance 4 1;");
        Check.due("four and place 0 can be told", four.both(0, 0), 20 * four.both(0, 1));
    }

    private static void guard() {
        HiddenBarrel x = Check.with(TOWN);
        Check.due("shut 3", x.guard(0, 0), 3);
        Check.due("7 is left", x.guard(0, 1), 7);
        Check.due("over 1", x.guard(0, 2), 1);
        Check.due("guard 3", x.guard(0, 3), Check.UNTOLD);
        Check.due("guard -1", x.guard(0, -1), Check.UNTOLD);
        Check.due("guard of town 1", x.guard(1, 0), Check.UNTOLD);
        Check.due("both as before", x.both(0, 0), 216);
        Check.due("cellars as before", x.about(0, 3), 12);
        HiddenBarrel one = Check.with("places 3;lane 0 1 5;lane 1 2 5;chance 2 9;chance 0 1;");
        Check.due("the only cellar", one.guard(0, 0), 2);
        Check.due("nothing is left", one.guard(0, 1), 0);
        Check.due("over 1", one.guard(0, 2), 1);
        HiddenBarrel star = Check.with("places 4;lane 0 1 5;lane 0 2 5;lane 0 3 5;chance 1 1;chance 2 1;chance 3 1;");
        Check.due("of several the least", star.guard(0, 0), 1);
        Check.due("not in least terms", star.guard(0, 1), 200);
        Check.due("over", star.guard(0, 2), 20);
        HiddenBarrel far = Check.with("places 4;lane 0 1 5;lane 0 2 9;lane 0 3 5;chance 1 1;chance 2 1;chance 3 1;");
        Check.due("the farthest is shut", far.guard(0, 0), 2);
        Check.due("10 is left", far.guard(0, 1), 10 * far.guard(0, 2));
    }

    private static void open() {
        HiddenBarrel x = Check.with(TOWN);
        Slow t = new SlowText(TOWN).town;
        for (int minutes = 1; minutes <= 20; minutes++) {
            long[] want = t.open(minutes);
            for (int what = 0; what < 4; what++) {
                Check.due("open " + minutes + " " + what, x.open(0, minutes, what), want[what]);
            }
        }
        Check.due("a lane of no use, from", x.open(0, 20, 0), 0);
        Check.due("a lane of no use, to", x.open(0, 20, 1), 2);
        Check.due("a lane of no use, D", x.open(0, 20, 2), 216);
        Check.due("a lane of no use, S", x.open(0, 20, 3), 18);
        Check.due("open 4", x.open(0, 1, 4), Check.UNTOLD);
        Check.due("open -1", x.open(0, 1, -1), Check.UNTOLD);
        Check.due("0 minutes", x.open(0, 0, 0), Check.UNTOLD);
        Check.due("21 minutes", x.open(0, 21, 0), Check.UNTOLD);
        Check.due("-1 minutes", x.open(0, -1, 0), Check.UNTOLD);
        Check.due("MAX minutes", x.open(0, Integer.MAX_VALUE, 0), Check.UNTOLD);
        Check.due("open of town 1", x.open(1, 1, 0), Check.UNTOLD);
        Check.due("both as before", x.both(0, 0), 216);
        Check.due("no lane was built", x.lane(0, 0, 2), -1);
        HiddenBarrel all = Check.with("places 3;lane 0 1 3;lane 0 2 4;lane 2 1 5;chance 2 2;");
        Check.due("no two without a lane", all.open(0, 1, 0), Check.UNTOLD);
        Check.due("no two without a lane, D", all.open(0, 1, 2), Check.UNTOLD);
        HiddenBarrel row = Check.with("places 3;lane 0 1 5;lane 1 2 6;chance 1 1;chance 2 1;");
        Check.due("row from", row.open(0, 3, 0), 0);
        Check.due("row to", row.open(0, 3, 1), 2);
    }

    /** Short lanes, where worths lie close together: by which cellar or lane it is least is held against Slow. */
    private static void near() {
        Towns drawn = new Towns(3);
        for (int i = 0; i < 150; i++) {
            Slow t = drawn.town(4, 6, 3 + i % 2);
            for (int a = 0; a < t.places; a++) {
                for (int b = 0; b < a; b++) {
                    t.lane[a][b] = t.lane[b][a] = t.lane[a][b] > 0 ? 1 + drawn.below(2) : 0;
                }
            }
            HiddenBarrel x = Check.with(t.text());
            Slow.Kernel kernel = t.kernel(t.ways(), t.cellarsAway());
            if (kernel != null) {
                Check.due("near D in " + t.text(), x.both(0, 0), kernel.d);
                Check.due("near S in " + t.text(), x.both(0, 1), kernel.s);
                Check.due("near row in " + t.text(), x.goes(0, 0, 0), kernel.rows.get(0));
            }
            long[] guard = t.guard();
            for (int what = 0; what < 3 && guard != null; what++) {
                Check.due("near guard " + what + " in " + t.text(), x.guard(0, what), guard[what]);
            }
            int minutes = 1 + i % 3;
            long[] open = i % 2 == 0 ? t.open(minutes) : null;
            for (int what = 0; what < 4 && open != null; what++) {
                Check.due("near open " + minutes + " " + what + " in " + t.text(), x.open(0, minutes, what), open[what]);
            }
        }
    }

    /** What was worked out for one town, or before, is not told of another. */
    private static void again() {
        HiddenBarrel x = Check.with(TOWN);
        Check.town(x, "places 4;lane 0 1 3;lane 1 2 4;lane 1 3 6;chance 2 2;chance 3 3;");
        Check.town(x, "places 4;lane 0 1 3;lane 1 2 4;lane 1 3 5;chance 1 2;chance 3 3;");
        long[] first = {x.both(0, 0), x.both(1, 0), x.both(2, 0), x.open(0, 2, 2), x.open(1, 2, 2), x.open(2, 2, 2)};
        Check.due("another's D", first[0] != first[1], true);
        Check.due("D 0", x.both(0, 0), first[0]);
        Check.due("open 1", x.open(1, 2, 2), first[4]);
        Check.due("C of 2 in 0", x.both(0, 12), 8);
        Check.due("C of 1 in 2", x.both(2, 11), 0);
        Check.due("C of 3 in 2", x.both(2, 13), 1);
        x.image(0);
        Check.townAt(x, 0, "places 5;lane 0 1 3;lane 1 2 4;lane 1 4 5;lane 4 3 1;chance 2 2;chance 4 3;");
        Check.due("D of the new one", x.both(0, 0), 216);
        Check.due("C of 3 in the new one", x.both(0, 13), 0);
        Check.due("C of 4 in the new one", x.both(0, 14), 10);
        Check.due("open to of the new one", x.open(0, 2, 1), 4);
        x.again(0);
        Check.due("C of 3 in the old one", x.both(0, 13), 10);
        Check.due("open D of the old one", x.open(0, 2, 2), first[3]);
    }
}
