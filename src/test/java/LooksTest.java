import java.util.List;

/** Promises 25 to 28: look, left, gain, leave. */
public final class LooksTest {
    private static final long TO_8 = 429981696L;
    private static final String TOWN = "places 3;lane 0 1 2;lane 0 2 2;chance 0 6;chance 1 3;dog 0 6;dig 0 2;prize 20;move 3;";

    private LooksTest() {
    }

    public static void main(String[] args) {
        look();
        left();
        gain();
        leave();
        full();
        Check.close("LooksTest");
    }

    /** At 1: 3 * 12 / 12; at 0: 6 * 6 / 12 / 2, then half of that each time; at 1 then 0. */
    private static void look() {
        HiddenBarrel x = Check.with(TOWN);
        int[] want = {1, 0, 0, 0, 0, 0, 0, 0, 0, 1, 1, 1, 1, 1, 1, 1, -1};
        for (int n = 0; n < want.length; n++) {
            Check.due("look " + n, x.look(0, n), want[n]);
        }
        Check.due("look -1", x.look(0, -1), -1);
        Check.due("look 64", x.look(0, 64), -1);
        Check.due("look MIN", x.look(0, Integer.MIN_VALUE), -1);
        Check.due("look MAX", x.look(0, Integer.MAX_VALUE), -1);
        Check.due("look of town 1", x.look(1, 0), -1);
        Check.due("look of town -1", x.look(-1, 0), -1);
        HiddenBarrel even = Check.with("places 3;lane 0 1 2;lane 0 2 2;chance 1 4;chance 2 4;dog 1 6;dog 2 3;dig 1 2;");
        Check.due("of several the least", even.look(0, 0), 1);
        Check.due("then the other one", even.look(0, 1), 2);
        Check.due("3 / 4 of 1 against 1 / 2 of 1", even.look(0, 2), 2);
    }

    private static void left() {
        HiddenBarrel x = Check.with(TOWN);
        Check.due("left 0", x.left(0, 0), 9 * TO_8);
        Check.due("left 1", x.left(0, 1), 6 * TO_8);
        Check.due("left 2", x.left(0, 2), 3 * TO_8);
        Check.due("left 3", x.left(0, 3), 3 * TO_8 / 2);
        Check.due("left 9", x.left(0, 9), 6 * 1679616);
        Check.due("left 16", x.left(0, 16), 6 * 1679616);
        Check.due("left 64", x.left(0, 64), 6 * 1679616);
        Check.due("left 65", x.left(0, 65), -1);
        Check.due("left -1", x.left(0, -1), -1);
        Check.due("left MAX", x.left(0, Integer.MAX_VALUE), -1);
        Check.due("left of town 1", x.left(1, 0), -1);
        Check.due("left of town -1", x.left(-1, 0), -1);
    }

    private static void gain() {
        HiddenBarrel x = Check.with(TOWN);
        Check.due("gain 0", x.gain(0, 0), 0);
        Check.due("3 * 20 - 9", x.gain(0, 1), 51 * TO_8);
        Check.due("6 * 20 - 9 - 2 * 6", x.gain(0, 2), 99 * TO_8);
        Check.due("7.5 * 20 - 9 - 2 * 6 - 2 * 3", x.gain(0, 3), 123 * TO_8);
        Check.due("gain 64 is gain 16", x.gain(0, 64), x.gain(0, 16));
        Check.due("more looks cost", x.gain(0, 16) < x.gain(0, 10), true);
        Check.due("gain 65", x.gain(0, 65), Check.NO_GAIN);
        Check.due("gain -1", x.gain(0, -1), Check.NO_GAIN);
        Check.due("gain MIN", x.gain(0, Integer.MIN_VALUE), Check.NO_GAIN);
        Check.due("gain of town 1", x.gain(1, 0), Check.NO_GAIN);
        Check.due("gain of town -1", x.gain(-1, 0), Check.NO_GAIN);
        HiddenBarrel poor = Check.with("places 2;lane 0 1 2;chance 1 3;dig 1 7;");
        Check.due("no prize", poor.gain(0, 1), -21 * TO_8);
        Check.due("found surely", poor.gain(0, 8), -21 * TO_8);
    }

    private static void leave() {
        HiddenBarrel x = Check.with(TOWN);
        Check.due("leave", x.leave(0), 9);
        Check.due("leave of town 1", x.leave(1), -1);
        Check.due("leave of town -1", x.leave(-1), -1);
        Check.due("no prize", Check.with("places 2;lane 0 1 2;chance 1 3;").leave(0), 0);
        Check.due("a prize of its minutes", Check.with("places 2;lane 0 1 2;chance 1 3;dig 1 7;prize 7;").leave(0), 0);
        Check.due("a prize above them", Check.with("places 2;lane 0 1 2;chance 1 3;dig 1 7;prize 8;").leave(0), 1);
        Check.due("of several the least", Check.with("places 2;lane 0 1 2;chance 1 3;dig 1 7;prize 999;").leave(0), 1);
        HiddenBarrel half = Check.with("places 2;lane 0 1 2;chance 1 3;dog 1 6;prize 2;");
        Check.due("each look costs what it finds", half.leave(0), 0);
        HiddenBarrel later = Check.with("places 3;lane 0 1 2;lane 0 2 1;chance 1 1;chance 2 1;dig 1 10;dig 2 10;prize 19;");
        Check.due("19 - 20", later.gain(0, 1), -TO_8);
        Check.due("first less, then more: 38 - 20 - 10", later.gain(0, 2), 8 * TO_8);
        Check.due("so one does not leave first", later.leave(0), 2);
    }

    /** Eight cellars, so 64 looks. */
    private static void full() {
        String text = "places 8;lane 0 1 20;lane 0 2 20;lane 0 3 20;lane 0 4 20;lane 0 5 20;lane 0 6 20;lane 0 7 20;"
                + "chance 0 99;chance 1 98;chance 2 97;chance 3 96;chance 4 99;chance 5 98;chance 6 97;chance 7 50;"
                + "dog 0 1;dog 1 2;dog 2 3;dog 3 4;dog 4 5;dog 5 6;dog 6 7;dog 7 8;dig 1 2;dig 2 3;dig 3 4;dig 4 99;"
                + "dig 5 98;dig 6 7;prize 999;";
        HiddenBarrel x = Check.with(text);
        Slow t = new SlowText(text).town;
        List<Integer> order = t.order();
        for (int n = 0; n <= 64; n++) {
            Check.due("full look " + n, x.look(0, n), n < 64 ? order.get(n) : -1);
            Check.due("full left " + n, x.left(0, n), t.left(order, n));
            Check.due("full gain " + n, x.gain(0, n), t.gain(order, n));
        }
        Check.due("full leave", x.leave(0), t.leave(order));
    }
}
