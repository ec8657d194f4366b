/** Promises 44 and 45: image, again. */
public final class ImagesTest {
    private static final String TOWN = "places 4;lane 0 1 3;lane 1 2 4;lane 1 3 5;chance 2 2;chance 3 3;dog 2 5;dig 3 7;"
            + "prize 30;move 2;";
    private static final String OTHER = "places 3;lane 0 1 9;lane 0 2 8;chance 1 7;chance 2 1;";

    private ImagesTest() {
    }

    public static void main(String[] args) {
        numbers();
        all();
        walks();
        allStops();
        searches();
        tape();
        others();
        free();
        Check.close("ImagesTest");
    }

    private static void numbers() {
        HiddenBarrel x = new HiddenBarrel();
        int[] wrong = {-1, 3, 4, Integer.MIN_VALUE, Integer.MAX_VALUE};
        for (int k : wrong) {
            Check.due("image " + k, x.image(k), false);
            Check.due("again " + k, x.again(k), false);
        }
        for (int k = 0; k < 3; k++) {
            Check.due("again without " + k, x.again(k), false);
        }
        for (int k = 2; k >= 0; k--) {
            Check.due("image " + k, x.image(k), true);
            Check.due("again " + k, x.again(k), true);
            Check.due("again once more " + k, x.again(k), true);
            Check.due("again without the next", k > 0 && x.again(k - 1), false);
        }
    }

    /** Each thing that is told, before and behind. */
    private static long[] told(HiddenBarrel x) {
        return new long[] {x.count(0), x.count(1), x.ran(0), x.ran(1), x.ran(2), x.ran(3), x.fault(0), x.fault(1),
            x.about(0, 0), x.about(0, 1), x.about(0, 2), x.about(0, 3), x.about(0, 4), x.about(0, 5), x.about(0, 6),
            x.about(0, 7), x.about(0, 12), x.about(0, 22), x.about(0, 33), x.about(1, 0), x.about(1, 6), x.lane(0, 0, 1),
            x.way(0, 0, 3), x.found(0, 0, 3), x.found(0, 1, 2), x.mean(0, 0), x.where(0, 0), x.where(0, 1), x.best(0, 0),
            x.likely(0, 2, 0), x.likely(0, 2, 1), x.next(0), x.both(0, 0), x.both(0, 12), x.left(0, 3), x.caught(0, 3),
            x.chase(0, 3, 1), x.open(0, 3, 2), x.bell(0, 30, 0), x.postman(0, 0)};
    }

    private static void same(String when, long[] got, long[] want) {
        for (int i = 0; i < want.length; i++) {
            Check.due(when + ", number " + i, got[i], want[i]);
        }
    }

    private static HiddenBarrel full() {
        HiddenBarrel x = Check.with(TOWN);
        Check.town(x, OTHER);
        x.walk(0);
        x.stop(0, 0, 3);
        x.stop(0, 0, 2);
        x.walk(0);
        x.stop(0, 1, 2);
        x.weigh(0, 1, 7);
        x.diary(0, 2);
        x.run(0, 9, 11);
        Check.town(x, "places 9;");
        return x;
    }

    private static void all() {
        HiddenBarrel x = full();
        long[] first = told(x);
        Check.due("image 1", x.image(1), true);
        same("an image changes nothing", told(x), first);
        x.stop(0, 0, 1);
        x.weigh(0, 0, 9);
        x.walk(1);
        x.diary(0, 3);
        x.run(1, 5, 77);
        Check.townAt(x, 0, OTHER);
        Check.town(x, OTHER);
        Check.town(x, OTHER);
        long[] second = told(x);
        Check.due("image 2", x.image(2), true);
        Check.due("again 1", x.again(1), true);
        same("again 1", told(x), first);
        Check.due("its walk has two stops", x.stop(0, 0, 1), 3);
        Check.due("its diary one day", x.diary(0, 1), 2);
        Check.due("again 2", x.again(2), true);
        same("again 2", told(x), second);
        Check.due("again 1 as it was", x.again(1), true);
        same("again 1 as it was", told(x), first);
        Check.due("a third town", Check.town(x, OTHER), 2);
    }

    /** The stops of a walk that is gone, told anew, and told again. */
    private static void walks() {
        HiddenBarrel x = full();
        x.image(0);
        Check.townAt(x, 0, TOWN);
        x.walk(0);
        x.stop(0, 0, 1);
        x.stop(0, 0, 0);
        x.stop(0, 0, 3);
        x.weigh(0, 0, 5);
        x.diary(0, 0);
        x.image(1);
        x.again(0);
        Check.due("found by the old walk at 3", x.found(0, 0, 3), 8);
        Check.due("found by the old walk at 2", x.found(0, 0, 2), 17);
        Check.due("found by the old walk at 1", x.found(0, 0, 1), -1);
        Check.due("where by the old weights", x.where(0, 1), 8 + 7 * 999);
        Check.due("likely by the old day", x.likely(0, 2, 0), 7);
        Check.due("likely by the old day, below", x.likely(0, 2, 1), 25);
        x.again(1);
        Check.due("found by the new walk at 3", x.found(0, 0, 3), 14);
        Check.due("found by the new walk at 2", x.found(0, 0, 2), -1);
        Check.due("likely by the new day", x.likely(0, 2, 0), 2);
    }

    private static void allStops() {
        HiddenBarrel x = Check.with(TOWN);
        for (int w = 0; w < 8; w++) {
            x.walk(0);
            x.weigh(0, w, 0);
            for (int k = 0; k < 16; k++) {
                x.stop(0, w, k < 15 - w ? 0 : 2 + w % 2);
            }
        }
        x.weigh(0, 7, 1);
        x.image(2);
        Check.townAt(x, 0, TOWN);
        for (int w = 0; w < 8; w++) {
            x.walk(0);
            for (int k = 0; k < 16; k++) {
                x.stop(0, w, 1);
            }
        }
        x.again(2);
        for (int w = 0; w < 8; w++) {
            Check.due("old walk " + w, x.found(0, w, 2 + w % 2), w % 2 == 0 ? 7 : 8);
            Check.due("old walk " + w + " at 1", x.found(0, w, 1), -1);
            Check.due("old walk " + w + " is full", x.stop(0, w, 1), -1);
        }
        Check.due("old weights", x.where(0, 1), 999);
    }

    private static void searches() {
        HiddenBarrel x = Check.with("places 3;lane 0 1 1;lane 0 2 1;chance 1 1;chance 2 1;dog 1 1;dog 2 3;dig 1 5;");
        int[][] ran = new int[3][4];
        for (int seed = 0; seed < 40; seed++) {
            x.run(0, 16, seed);
            int k = x.ran(1) == 0 ? 0 : x.ran(3) == 0 ? 1 : 2;
            for (int what = 0; what < 4; what++) {
                ran[k][what] = x.ran(what);
            }
            x.image(k);
        }
        for (int k = 0; k < 3; k++) {
            Check.due("image of a search", x.again(k), true);
            for (int what = 0; what < 4; what++) {
                Check.due("ran " + what + " of image " + k, x.ran(what), ran[k][what]);
            }
        }
        Check.due("looks that found nothing", ran[0][3] == 8, true);
        Check.due("another look", ran[1][1] != ran[2][1], true);
    }

    private static void tape() {
        HiddenBarrel x = new HiddenBarrel();
        Check.put(x, "places 2;lane 0 1 5;chance 1 1;");
        x.image(0);
        Check.put(x, "places 2;lane 0 1 6;chance 1 1;lane");
        x.image(1);
        x.again(0);
        Check.due("the tape's end", x.end(32), -1);
        Check.due("the tape", x.town(-1), 0);
        Check.due("as image 0 has it", x.lane(0, 0, 1), 5);
        x.again(1);
        Check.due("no town in image 1", x.count(0), 0);
        Check.due("image 1's tape", x.end(31), 31);
        Check.due("image 1's town", x.town(-1), 0);
        Check.due("as image 1 has it", x.lane(0, 0, 1), 6);
        x.again(0);
        Check.due("image 0's tape is still there", x.end(31), 31);
        Check.town(x, "places 2");
        x.image(0);
        Check.town(x, "");
        Check.due("another fault", x.fault(1), 0);
        x.again(0);
        Check.due("image 0's fault", x.fault(0), 1);
        Check.due("image 0's place", x.fault(1), 8);
    }

    private static void others() {
        HiddenBarrel x = new HiddenBarrel();
        x.image(0);
        Check.town(x, TOWN);
        x.image(1);
        x.walk(0);
        x.image(2);
        x.again(0);
        Check.due("image 0", x.count(0), 0);
        x.again(2);
        Check.due("image 2", x.about(0, 6), 1);
        x.again(1);
        Check.due("image 1", x.about(0, 6), 0);
        x.image(2);
        x.again(0);
        x.again(2);
        Check.due("image 2 anew", x.about(0, 6), 0);
        Check.due("its town", x.about(0, 0), 4);
        Check.due("a walk behind again", x.walk(0), 0);
        x.again(1);
        Check.due("image 1 is as it was", x.about(0, 6), 0);
    }

    /** Objects share nothing. */
    private static void free() {
        HiddenBarrel x = full();
        HiddenBarrel y = new HiddenBarrel();
        x.image(0);
        Check.due("another object's image", y.again(0), false);
        Check.due("another object's town", y.about(0, 0), -1);
        Check.town(y, OTHER);
        Check.due("both of one", x.both(0, 12) != y.both(0, 12), true);
        Check.due("open of one", x.open(0, 3, 2) != y.open(0, 3, 2), true);
        Check.due("caught of one", x.caught(0, 3) != y.caught(0, 3), true);
    }
}
