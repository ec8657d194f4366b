/** Promises 9 to 13 and 18: walk, stop, weigh, found, mean, where. */
public final class WalksTest {
    private static final String TOWN = "places 4;lane 0 1 3;lane 1 2 4;lane 1 3 5;chance 0 4;chance 2 2;chance 3 3;";

    private WalksTest() {
    }

    public static void main(String[] args) {
        walk();
        stop();
        weigh();
        found();
        mean();
        where();
        Check.close("WalksTest");
    }

    private static void walk() {
        HiddenBarrel x = Check.with(TOWN);
        for (int i = 0; i < 8; i++) {
            Check.due("walk", x.walk(0), i);
        }
        Check.due("ninth walk", x.walk(0), -1);
        Check.due("walks", x.about(0, 6), 8);
        Check.due("walk of town 1", x.walk(1), -1);
        Check.due("walk of town -1", x.walk(-1), -1);
        Check.due("stop of walk 7", x.stop(0, 7, 3), 1);
        Check.due("stop of walk 6", x.stop(0, 6, 2), 1);
        Check.due("found by walk 7", x.found(0, 7, 3), 8);
        Check.due("found by walk 6", x.found(0, 6, 3), -1);
        Check.town(x, TOWN);
        Check.due("other town's walk", x.walk(1), 0);
        Check.due("its stops", x.stop(1, 0, 1), 1);
    }

    private static void stop() {
        HiddenBarrel x = Check.with(TOWN);
        Check.due("stop of no walk", x.stop(0, 0, 1), -1);
        x.walk(0);
        for (int i = 1; i <= 16; i++) {
            Check.due("stop", x.stop(0, 0, i % 4), i);
        }
        Check.due("seventeenth stop", x.stop(0, 0, 1), -1);
        x.walk(0);
        Check.due("stop of walk 1", x.stop(0, 1, 0), 1);
        Check.due("stop at 4", x.stop(0, 1, 4), -1);
        Check.due("stop at -1", x.stop(0, 1, -1), -1);
        Check.due("stop at MAX", x.stop(0, 1, Integer.MAX_VALUE), -1);
        Check.due("stop of walk 2", x.stop(0, 2, 1), -1);
        Check.due("stop of walk -1", x.stop(0, -1, 1), -1);
        Check.due("stop of walk 8", x.stop(0, 8, 1), -1);
        Check.due("stop of town 1", x.stop(1, 0, 1), -1);
        Check.due("stop of walk 1 again", x.stop(0, 1, 0), 2);
    }

    private static void weigh() {
        HiddenBarrel x = Check.with(TOWN);
        Check.due("weigh no walk", x.weigh(0, 0, 1), false);
        x.walk(0);
        Check.due("weigh 0", x.weigh(0, 0, 0), true);
        Check.due("where of weight 0", x.where(0, 0), -1);
        Check.due("weigh 99", x.weigh(0, 0, 99), true);
        Check.due("where of weight 99", x.where(0, 1), 99 * 999);
        Check.due("weigh 100", x.weigh(0, 0, 100), false);
        Check.due("weigh -1", x.weigh(0, 0, -1), false);
        Check.due("weigh MIN", x.weigh(0, 0, Integer.MIN_VALUE), false);
        Check.due("weigh walk 1", x.weigh(0, 1, 5), false);
        Check.due("weigh walk -1", x.weigh(0, -1, 5), false);
        Check.due("weigh town 1", x.weigh(1, 0, 5), false);
        Check.due("still 99", x.where(0, 1), 99 * 999);
    }

    private static void found() {
        HiddenBarrel x = Check.with(TOWN);
        Check.due("found by no walk", x.found(0, 0, 0), -1);
        x.walk(0);
        Check.due("found at 0 without stops", x.found(0, 0, 0), 0);
        Check.due("found at 1 without stops", x.found(0, 0, 1), -1);
        x.stop(0, 0, 3);
        Check.due("through 1 nobody looks", x.found(0, 0, 1), -1);
        Check.due("found at 3", x.found(0, 0, 3), 8);
        x.stop(0, 0, 3);
        x.stop(0, 0, 2);
        x.stop(0, 0, 0);
        x.stop(0, 0, 3);
        x.stop(0, 0, 1);
        Check.due("the first time at 3", x.found(0, 0, 3), 8);
        Check.due("found at 2", x.found(0, 0, 2), 17);
        Check.due("found at 0 all the same", x.found(0, 0, 0), 0);
        Check.due("found at 1", x.found(0, 0, 1), 17 + 7 + 8 + 5);
        Check.due("found at 4", x.found(0, 0, 4), -1);
        Check.due("found at -1", x.found(0, 0, -1), -1);
        Check.due("found by walk 1", x.found(0, 1, 0), -1);
        Check.due("found by walk -1", x.found(0, -1, 0), -1);
        Check.due("found in town 1", x.found(1, 0, 0), -1);
    }

    private static void mean() {
        HiddenBarrel x = Check.with(TOWN);
        Check.due("mean of no walk", x.mean(0, 0), -1);
        x.walk(0);
        Check.due("mean without stops", x.mean(0, 0), -1);
        x.stop(0, 0, 3);
        x.stop(0, 0, 1);
        Check.due("mean without 2", x.mean(0, 0), -1);
        x.stop(0, 0, 2);
        Check.due("mean", x.mean(0, 0), 3 * 8 + 2 * 17);
        x.weigh(0, 0, 50);
        x.stop(0, 0, 3);
        Check.due("mean as before", x.mean(0, 0), 58);
        Check.due("mean of walk 1", x.mean(0, 1), -1);
        Check.due("mean of walk -1", x.mean(0, -1), -1);
        Check.due("mean in town 1", x.mean(1, 0), -1);
        HiddenBarrel y = Check.with("places 2;lane 0 1 20;chance 0 5;dog 0 1;dig 0 99;");
        y.walk(0);
        Check.due("mean with the barrel at 0", y.mean(0, 0), 0);
    }

    private static void where() {
        HiddenBarrel x = Check.with(TOWN);
        Check.due("where without walks", x.where(0, 0), -1);
        Check.due("where 1 without walks", x.where(0, 1), -1);
        x.walk(0);
        Check.due("where, none comes", x.where(0, 0), 2);
        Check.due("999", x.where(0, 1), 999);
        x.stop(0, 0, 2);
        Check.due("where 2 is come to", x.where(0, 0), 3);
        Check.due("999 still", x.where(0, 1), 999);
        x.stop(0, 0, 3);
        Check.due("where both are come to", x.where(0, 0), 3);
        Check.due("16", x.where(0, 1), 16);
        x.walk(0);
        x.stop(0, 1, 3);
        x.stop(0, 1, 2);
        Check.due("where of two walks", x.where(0, 0), 2);
        Check.due("7 + 17", x.where(0, 1), 24);
        x.weigh(0, 1, 0);
        Check.due("where, one without weight", x.where(0, 0), 3);
        x.weigh(0, 1, 9);
        x.weigh(0, 0, 10);
        Check.due("10 * 16 + 9 * 8", x.where(0, 1), 232);
        Check.due("against 10 * 7 + 9 * 17", x.where(0, 0), 3);
        x.weigh(0, 0, 9);
        Check.due("9 * 24 both", x.where(0, 1), 216);
        Check.due("of both the least", x.where(0, 0), 2);
        Check.due("where 2", x.where(0, 2), -1);
        Check.due("where -1", x.where(0, -1), -1);
        Check.due("where of town 1", x.where(1, 0), -1);
        Check.due("where of town -1", x.where(-1, 0), -1);
        atZero();
    }

    /** Of several the least; at place 0 it is found at once; later than 999 is later. */
    private static void atZero() {
        HiddenBarrel x = Check.with("places 3;lane 0 1 5;lane 0 2 5;chance 0 1;chance 1 1;chance 2 1;");
        x.walk(0);
        x.stop(0, 0, 1);
        x.walk(0);
        x.stop(0, 1, 2);
        Check.due("of several the least", x.where(0, 0), 1);
        HiddenBarrel y = Check.with("places 2;lane 0 1 5;chance 0 1;");
        y.walk(0);
        Check.due("at place 0 alone", y.where(0, 0), 0);
        Check.due("at minute 0", y.where(0, 1), 0);
        HiddenBarrel z = Check.with("places 8;lane 0 1 20;lane 1 2 20;lane 2 3 20;lane 3 4 20;lane 4 5 20;lane 5 6 20;"
                + "lane 6 7 20;chance 6 1;chance 7 1;");
        z.walk(0);
        for (int i = 0; i < 7; i++) {
            z.stop(0, 0, 6);
            z.stop(0, 0, 0);
        }
        Check.due("who does not come has 999", z.where(0, 0), 7);
        z.walk(0);
        z.weigh(0, 0, 0);
        for (int i = 0; i < 7; i++) {
            z.stop(0, 1, 5);
            z.stop(0, 1, 0);
        }
        z.stop(0, 1, 6);
        Check.due("1520 minutes are more than 999", z.where(0, 0), 6);
        Check.due("1520", z.where(0, 1), 14 * 100 + 120);
    }
}
