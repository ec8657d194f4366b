import java.util.ArrayList;
import java.util.List;

/** The edges that promises 41 to 45 name: searches, what is counted, images. */
public final class EdgesKeepTest {
    private static final String FAINT = "places 3;lane 0 1 1;lane 0 2 1;chance 0 1;chance 1 2;chance 2 4;dog 0 1;dog 1 1;dog 2 1;dig 1 99;";
    private static final int[] SEEDS = {0, 1, 2, -1, -2, 12345, -12345, Integer.MAX_VALUE, Integer.MAX_VALUE - 1,
        Integer.MIN_VALUE, Integer.MIN_VALUE + 1, 1 << 30, 1 << 16, 65535, -65536, 1103515245, -1103515245};

    private EdgesKeepTest() {
    }

    public static void main(String[] args) {
        runLooks();
        runNone();
        runSeeds();
        runByHand();
        ranNone();
        ranWhats();
        ranNoLooks();
        countWhats();
        countAll();
        imageNumbers();
        imageEmpty();
        imageFull();
        imageLast();
        imageTape();
        imageFault();
        imageSearch();
        againNone();
        againOthers();
        Check.close("EdgesKeepTest");
    }

    // ---- promises 41, 42 ----

    /** By so many looks at most, 0 .. 64: 0 if it is not found in them. */
    private static void runLooks() {
        for (int seed : SEEDS) {
            HiddenBarrel x = Check.with(FAINT);
            Slow t = new SlowText(FAINT).town;
            for (int looks = 0; looks <= 64; looks++) {
                int[] want = t.search(looks, seed);
                Check.due("run by " + looks + " looks", x.run(0, looks, seed), want[1]);
                for (int what = 0; what < 4; what++) {
                    Check.due("ran " + what + " by " + looks + " looks", x.ran(what), want[what]);
                }
            }
        }
    }

    private static final Edges.Asked[] RUN = {
        (x, n) -> x.run(0, n, 5),
        (x, n) -> x.run(n, 9, 5),
        (x, n) -> x.run(n, 65, n),
    };

    /** NONE: there is none such (of either; a SEARCH that was run stays). */
    private static void runNone() {
        for (int run = 0; run < 2; run++) {
            for (int call = 0; call < 3; call++) {
                HiddenBarrel x = Edges.towns(2);
                if (run == 1) {
                    x.run(1, 9, 33);
                }
                int[] numbers = call == 0 ? Edges.outside(0, 64) : Edges.outside(0, 1);
                Edges.refused("run, call " + call, x, -1, RUN[call], numbers);
                Check.due("as many as before", x.count(1), run);
            }
        }
    }

    /** Numbers of 32 bits that wrap around, from seeds of either sign. */
    private static void runSeeds() {
        Slow t = new SlowText(FAINT).town;
        for (int seed : SEEDS) {
            HiddenBarrel x = Check.with(FAINT);
            int[] want = t.search(64, seed);
            Check.due("run by " + seed, x.run(0, 64, seed), want[1]);
            Check.due("run by the same seed", x.run(0, 64, seed), want[1]);
            for (int what = 0; what < 4; what++) {
                Check.due("ran " + what + " by " + seed, x.ran(what), want[what]);
            }
        }
    }

    /** Seed 1 draws 16838, 5758, 10113; seed 0 draws 0, then 21468; seed -1 draws 15929. */
    private static void runByHand() {
        HiddenBarrel x = Check.with("places 2;lane 0 1 1;chance 0 98;chance 1 99;dog 0 11;dog 1 11;dig 0 2;dig 1 3;");
        x.run(0, 0, 1);
        Check.due("16838 by 197 leaves 93", x.ran(0), 0);
        x.run(0, 0, 0);
        Check.due("0 by 197 leaves 0", x.ran(0), 0);
        x.run(0, 0, -1);
        Check.due("15929 by 197 leaves 169", x.ran(0), 1);
        HiddenBarrel y = Check.with("places 2;lane 0 1 1;chance 0 93;chance 1 99;");
        y.run(0, 0, 1);
        Check.due("16838 by 192 leaves 134", y.ran(0), 1);
        HiddenBarrel edge = Check.with("places 2;lane 0 1 1;chance 0 29;chance 1 71;");
        edge.run(0, 0, -1);
        Check.due("15929 by 100 leaves 29: not above 29", edge.ran(0), 1);
        HiddenBarrel less = Check.with("places 2;lane 0 1 1;chance 0 30;chance 1 70;");
        less.run(0, 0, -1);
        Check.due("above 29 is 30", less.ran(0), 0);
        HiddenBarrel one = Check.with("places 2;lane 0 1 1;chance 0 1;dog 0 10;dig 0 7;");
        Check.due("5758 by 12 leaves 10: not below 10; 10113 leaves 9", one.run(0, 64, 1), 2);
        Check.due("minutes of both", one.ran(2), 14);
        Check.due("one found nothing", one.ran(3), 1);
        HiddenBarrel first = Check.with("places 2;lane 0 1 1;chance 0 1;dog 0 11;dig 0 7;");
        Check.due("10 is below 11", first.run(0, 64, 1), 1);
        Check.due("one look was not enough", one.run(0, 1, 1), 0);
    }

    /** NONE: none was run. */
    private static void ranNone() {
        HiddenBarrel x = Edges.towns(3);
        for (int what : Edges.outside(0, -1)) {
            Check.due("ran " + what + ", none was run", x.ran(what), -1);
        }
        for (int what = 0; what < 4; what++) {
            Check.due("ran " + what + ", none was run", x.ran(what), -1);
            x.run(0, 65, 1);
            x.run(3, 1, 1);
        }
    }

    /** NONE for another what. */
    private static void ranWhats() {
        int[] want = new SlowText(FAINT).town.search(64, 3);
        Edges.whats("ran", () -> {
            HiddenBarrel x = Check.with(FAINT);
            x.run(0, 64, 3);
            return x;
        }, -1, (x, what) -> x.ran(what), want[0], want[1], want[2], want[3]);
    }

    /** No look: not found, no minutes, none that found nothing; still it is a SEARCH. */
    private static void ranNoLooks() {
        HiddenBarrel x = Check.with("places 2;lane 0 1 1;chance 1 1;");
        Check.due("no look", x.run(0, 0, 9), 0);
        int[] want = {1, 0, 0, 0};
        for (int what = 0; what < 4; what++) {
            Check.due("ran " + what, x.ran(what), want[what]);
        }
        Check.due("one was run", x.count(1), 1);
        Check.due("a look", x.run(0, 1, 9), 1);
        Check.townAt(x, 0, FAINT);
        Check.due("it stays without its town", x.ran(0), 1);
        Check.due("it stays without its town, found", x.ran(1), 1);
    }

    // ---- promise 43 ----

    /** -2 for another what. */
    private static void countWhats() {
        for (int towns = 0; towns <= 3; towns++) {
            int n = towns;
            Edges.whats("count", () -> {
                HiddenBarrel x = Edges.towns(n);
                x.run(0, 1, 1);
                x.run(2, 1, 1);
                return x;
            }, -2, (x, what) -> x.count(what), towns, towns == 0 ? 0 : towns == 3 ? 2 : 1);
        }
    }

    private static void countAll() {
        HiddenBarrel x = Check.with(FAINT);
        for (int i = 1; i <= 400; i++) {
            x.run(0, i % 3, i);
        }
        Check.due("400 searches", x.count(1), 400);
        Check.due("one town", x.count(0), 1);
    }

    // ---- promises 44, 45 ----

    /** Image k (0 .. 2): true; false for another k, and then nothing changes. */
    private static void imageNumbers() {
        Edges.refused("image", Edges.towns(3), 0, (x, k) -> x.image(k) ? 1 : 0, Edges.outside(0, 2));
        HiddenBarrel x = Edges.towns(1);
        for (int k = 0; k < 3; k++) {
            Check.due("image " + k, x.image(k), true);
            Check.due("image " + k + " anew", x.image(k), true);
        }
        Edges.refused("again", Edges.towns(3), 0, (y, k) -> y.again(k) ? 1 : 0, Edges.outside(0, 2));
        Check.town(x, FAINT);
        Edges.refused("again with three images", x, 0, (y, k) -> y.again(k) ? 1 : 0, Edges.outside(0, 2));
        for (int k : Edges.outside(0, 2)) {
            x.image(k);
        }
        for (int k = 0; k < 3; k++) {
            Check.town(x, FAINT);
            Check.due("again " + k, x.again(k), true);
            Check.due("no image was made by a wrong number", x.count(0), 1);
        }
    }

    /** An image of a new object: all is gone by it. */
    private static void imageEmpty() {
        for (int k = 0; k < 3; k++) {
            HiddenBarrel x = new HiddenBarrel();
            x.image(k);
            for (int t = 0; t < 3; t++) {
                Check.town(x, Edges.TOWN);
                x.walk(t);
                x.diary(t, 1);
            }
            x.run(0, 9, 9);
            Check.town(x, "places");
            Check.townAt(x, 0, "places");
            Check.put(x, "places");
            Check.due("again", x.again(k), true);
            Check.due("no towns", x.count(0), 0);
            Check.due("no searches", x.count(1), 0);
            Check.due("none was run", x.ran(0), -1);
            Check.due("no fault", x.fault(0), 0);
            Check.due("no place", x.fault(1), -1);
            Check.due("no tape", x.end(1), -1);
            for (Edges.OfTown c : Edges.CALLS) {
                Check.due(c.name + " of no town", c.call.of(x, 0), c.none);
            }
            Check.due("a first town", Check.town(x, Edges.TOWN), 0);
            Check.due("without walks", x.about(0, 6), 0);
            Check.due("without days", x.about(0, 7), 0);
        }
    }

    /** Three towns, each with eight walks of sixteen stops and seven days: as an image has it, all is full. */
    private static void imageFull() {
        HiddenBarrel x = Edges.towns(3);
        for (int w = 1; w < 8; w++) {
            for (int t = 0; t < 3; t++) {
                x.walk(t);
                x.weigh(t, w, 10 * w + t);
                x.diary(t, w % 3 + t % 2);
            }
        }
        for (int k = 3; k <= 16; k++) {
            for (int t = 0; t < 3; t++) {
                x.stop(t, 0, k % 4);
                x.stop(t, 7, (k + t) % 4);
            }
        }
        long[] want = Edges.told(x);
        x.image(1);
        for (int t = 0; t < 3; t++) {
            Check.townAt(x, t, FAINT);
            x.walk(t);
            x.stop(t, 0, 1);
            x.weigh(t, 0, 77);
            x.diary(t, 0);
        }
        Check.due("again", x.again(1), true);
        Edges.same("again", Edges.told(x), want);
        for (int t = 0; t < 3; t++) {
            Check.due("no ninth walk", x.walk(t), -1);
            Check.due("no seventeenth stop", x.stop(t, 0, 1), -1);
            Check.due("a fifteenth stop", x.stop(t, 7, 1), 15);
            Check.due("no eighth day", x.diary(t, 1), -1);
        }
        Check.due("no fourth town", Check.town(x, FAINT), -2);
    }

    /** What is changed behind an image in the same town: each walk's stops and weight, each day. */
    private static void imageLast() {
        for (int w = 0; w < 8; w++) {
            HiddenBarrel x = Check.with("places 3;lane 0 1 1;lane 0 2 1;chance 0 1;chance 1 8;chance 2 9;dog 1 3;dog 2 5;");
            for (int i = 0; i < 8; i++) {
                x.walk(0);
                x.stop(0, i, 1);
                x.weigh(0, i, 0);
            }
            x.weigh(0, w, 5);
            for (int d = 0; d < 7; d++) {
                x.diary(0, d == w ? 2 : 0);
            }
            x.image(0);
            Check.due("weighed", x.where(0, 1), 5 * 999);
            long above = x.likely(0, 1, 0);
            long below = x.likely(0, 1, 1);
            x.weigh(0, w, 7);
            x.stop(0, w, 2);
            x.forget(0);
            for (int d = 0; d < 7; d++) {
                x.diary(0, d == w ? 1 : 0);
            }
            x.image(1);
            x.again(0);
            Check.due("weighed as before", x.where(0, 1), 5 * 999);
            Check.due("not at 2, as before", x.found(0, w, 2), -1);
            Check.due("a second stop", x.stop(0, w, 1), 2);
            Check.due("likely as before", x.likely(0, 1, 0), above);
            Check.due("likely as before, below", x.likely(0, 1, 1), below);
            x.again(1);
            Check.due("weighed as then", x.where(0, 1), 7 * 3);
            Check.due("at 2 as then", x.found(0, w, 2), 3);
            Check.due("likely as then", x.likely(0, 1, 0) != above || x.likely(0, 1, 1) != below, w < 7);
        }
    }

    /** The tape, too: empty, of one byte, full. */
    private static void imageTape() {
        int[] lengths = {0, 1, 20, 480, 481, 500};
        for (int length : lengths) {
            HiddenBarrel x = new HiddenBarrel();
            Check.put(x, " ".repeat(length));
            x.image(0);
            Check.put(x, "places 2;".repeat(50));
            x.end(length / 2 + 3);
            x.again(0);
            Check.due("a byte more than " + length, x.end(length + 1), -1);
            Check.due("feed behind " + length, x.feed(0, 0, 0, 0, 0), length <= 480 ? length + 20 : -1);
            x.again(0);
            Check.due("so many", x.end(length), length);
            x.town(-1);
            Check.due("blanks alone", x.fault(1), length);
        }
        tapeBytes();
    }

    /** Each byte of a full tape. */
    private static void tapeBytes() {
        for (int place = 0; place < 500; place++) {
            HiddenBarrel x = new HiddenBarrel();
            Check.put(x, " ".repeat(place) + "%" + " ".repeat(499 - place));
            x.image(2);
            Check.put(x, " ".repeat(500));
            x.again(2);
            x.town(-1);
            Check.due("byte " + place + " as image 2 has it", x.fault(1), place);
        }
    }

    /** The FAULT, too. */
    private static void imageFault() {
        String[] texts = {"places 9;", "", Edges.TOWN, "places 2;lane 0 1 1;"};
        int[] fault = {2, 1, 0, 4};
        int[] place = {7, 0, -1, 20};
        for (int i = 0; i < texts.length; i++) {
            HiddenBarrel x = new HiddenBarrel();
            Check.town(x, texts[i]);
            x.image(2);
            Check.town(x, texts[(i + 1) % texts.length]);
            x.again(2);
            Check.due("fault " + i, x.fault(0), fault[i]);
            Check.due("place " + i, x.fault(1), place[i]);
        }
    }

    /** The SEARCH, too, and how many were run. */
    private static void imageSearch() {
        HiddenBarrel x = Check.with(FAINT);
        x.image(0);
        List<int[]> want = new ArrayList<>();
        for (int k = 1; k < 3; k++) {
            x.run(0, 3 * k, k);
            want.add(new int[] {x.ran(0), x.ran(1), x.ran(2), x.ran(3), x.count(1)});
            x.image(k);
        }
        x.run(0, 64, 99);
        for (int k = 2; k >= 0; k--) {
            x.again(k);
            for (int what = 0; what < 4; what++) {
                Check.due("ran " + what + " of image " + k, x.ran(what), k == 0 ? -1 : want.get(k - 1)[what]);
            }
            Check.due("searches of image " + k, x.count(1), k);
        }
    }

    /** False if there is none such: no image k was made, and then nothing changes. */
    private static void againNone() {
        for (int made = 0; made < 3; made++) {
            HiddenBarrel x = Edges.towns(1);
            x.image(made);
            Check.town(x, FAINT);
            int m = made;
            Edges.refused("again without image", x, 0, (y, k) -> y.again(k) ? 1 : 0, (m + 1) % 3, (m + 2) % 3);
            Check.due("two towns", x.count(0), 2);
            Check.due("again " + made, x.again(made), true);
            Check.due("one town", x.count(0), 1);
        }
        Check.due("another object's image", new HiddenBarrel().again(0), false);
    }

    /** Other images stay, and so does image k itself. */
    private static void againOthers() {
        HiddenBarrel x = new HiddenBarrel();
        for (int k = 0; k < 3; k++) {
            Check.town(x, Edges.TOWN);
            x.image(k);
        }
        for (int i = 0; i < 12; i++) {
            int k = i * 7 % 3;
            Check.due("again " + k, x.again(k), true);
            Check.due("towns of image " + k, x.count(0), k + 1);
            Check.due("its walks", x.about(k, 6), 0);
            x.walk(k);
            x.diary(k, 1);
            Check.put(x, "x");
        }
    }
}
