/** The edges that promises 6 to 13 and 18 name: what is told of a town, its lanes, its walks. */
public final class EdgesTellTest {
    private static final String EIGHT = "places 8;lane 0 1 20;lane 1 2 20;lane 2 3 20;lane 3 4 20;lane 4 5 20;lane 5 6 20;"
            + "lane 6 7 20;chance 0 1;chance 7 2;dog 7 3;dig 7 4;dog 0 5;dig 0 6;prize 999;move 6;";
    private static final String TWO = "places 2;lane 0 1 1;chance 1 99;";

    private EdgesTellTest() {
    }

    public static void main(String[] args) {
        aboutWhats();
        laneNone();
        wayNone();
        walkNumbers();
        walkFull();
        stopNumbers();
        stopFull();
        stopNone();
        weighNumbers();
        weighNone();
        foundAtNought();
        foundNotCome();
        foundNone();
        meanAll();
        meanNone();
        whereNone();
        whereNotCome();
        whereLeast();
        whereWhats();
        Check.close("EdgesTellTest");
    }

    // ---- promises 6 to 8 ----

    /** NONE for another what: 10 + a, 20 + a, 30 + a of the first and the last PLACE, and of the one beyond. */
    private static void aboutWhats() {
        long[] eight = {8, 7, 3, 129, 999, 6, 0, 0, -1, -1,
            1, 0, 0, 0, 0, 0, 0, 2, -1, -1,
            5, 12, 12, 12, 12, 12, 12, 3, -1, -1,
            6, 1, 1, 1, 1, 1, 1, 4, -1, -1};
        Edges.whats("about eight", EIGHT, -1, (x, what) -> x.about(0, what), eight);
        long[] two = {2, 1, 99, 2, 0, 0, 0, 0, -1, -1,
            0, 99, -1, -1, -1, -1, -1, -1, -1, -1,
            12, 12, -1, -1, -1, -1, -1, -1, -1, -1,
            1, 1, -1, -1, -1, -1, -1, -1, -1, -1};
        Edges.whats("about two", TWO, -1, (x, what) -> x.about(0, what), two);
    }

    /** NONE: there is none such (TOWN, PLACE, LANE). */
    private static void laneNone() {
        String[] texts = {EIGHT, TWO};
        for (String text : texts) {
            int places = Check.with(text).about(0, 0);
            int[] beyond = Edges.outside(0, places - 1);
            for (int a = 0; a < places; a++) {
                int at = a;
                Edges.refused("lane from " + a, text, -1, (x, b) -> x.lane(0, at, b), beyond);
                Edges.refused("lane to " + a, text, -1, (x, b) -> x.lane(0, b, at), beyond);
                for (int b = 0; b < places; b++) {
                    int want = Math.abs(a - b) == 1 ? places == 8 ? 20 : 1 : -1;
                    Check.due("lane " + a + " " + b, Check.with(text).lane(0, a, b), want);
                }
            }
            Edges.refused("lane", text, -1, (x, b) -> x.lane(0, b, b), beyond);
            Edges.refused("lane", text, -1, (x, b) -> x.lane(0, b, -b), beyond);
        }
    }

    /** NONE: there is none such TOWN, PLACE. */
    private static void wayNone() {
        String[] texts = {EIGHT, TWO};
        for (String text : texts) {
            HiddenBarrel y = Check.with(text);
            int places = y.about(0, 0);
            int[] beyond = Edges.outside(0, places - 1);
            for (int a = 0; a < places; a++) {
                int at = a;
                Edges.refused("way from " + a, text, -1, (x, b) -> x.way(0, at, b), beyond);
                Edges.refused("way to " + a, text, -1, (x, b) -> x.way(0, b, at), beyond);
                for (int b = 0; b < places; b++) {
                    Check.due("way " + a + " " + b, y.way(0, a, b), Math.abs(a - b) * (places == 8 ? 20 : 1));
                }
            }
            Edges.refused("way", text, -1, (x, b) -> x.way(0, b, b), beyond);
        }
    }

    // ---- promises 9 to 11 ----

    /** Its number, from 0 on, in each TOWN. */
    private static void walkNumbers() {
        HiddenBarrel x = Edges.towns(0);
        for (int t = 0; t < 3; t++) {
            Check.town(x, TWO);
        }
        for (int w = 0; w < 8; w++) {
            for (int t = 0; t < 3; t++) {
                Check.due("walk " + w + " of " + t, x.walk(t), w);
                Check.due("walks of " + t, x.about(t, 6), w + 1);
                Check.due("it has no stops", x.found(t, w, 1), -1);
            }
        }
    }

    /** NONE: there are 8. */
    private static void walkFull() {
        for (int full = 0; full < 3; full++) {
            HiddenBarrel x = Edges.towns(3);
            for (int w = 1; w < 8; w++) {
                Check.due("walk", x.walk(full), w);
            }
            int t = full;
            Edges.refused("ninth walk", x, -1, (y, i) -> y.walk(t), 1, 2, 3);
            for (int other = 0; other < 3; other++) {
                if (other != full) {
                    Check.due("another's second walk", x.walk(other), 1);
                }
            }
            Check.due("walk 7 has room", x.stop(full, 7, 1), 1);
            Check.townAt(x, full, TWO);
            Check.due("a first walk again", x.walk(full), 0);
        }
    }

    /** A STOP more: how many; of each WALK for itself. */
    private static void stopNumbers() {
        HiddenBarrel x = Check.with(EIGHT);
        for (int w = 0; w < 8; w++) {
            x.walk(0);
        }
        for (int k = 1; k <= 16; k++) {
            for (int w = 0; w < 8; w++) {
                Check.due("stop " + k + " of " + w, x.stop(0, w, (w + k) % 8), k);
            }
        }
        for (int w = 0; w < 8; w++) {
            Check.due("found by " + w + " at its second stop", x.found(0, w, (w + 2) % 8),
                    w == 6 ? 0 : 20 * ((w + 1) % 8 + Math.abs((w + 2) % 8 - (w + 1) % 8)));
        }
    }

    /** NONE: there are 16. */
    private static void stopFull() {
        for (int full = 0; full < 8; full++) {
            HiddenBarrel x = Check.with(EIGHT);
            for (int w = 0; w < 8; w++) {
                x.walk(0);
            }
            for (int k = 1; k <= 16; k++) {
                Check.due("stop", x.stop(0, full, k == 16 ? 7 : 1), k);
            }
            int w = full;
            Edges.refused("seventeenth stop", x, -1, (y, place) -> y.stop(0, w, place), 0, 1, 2, 3, 4, 5, 6, 7);
            Check.due("the sixteenth counts", x.found(0, full, 7), 140);
            Check.due("the seventeenth doesn't", x.found(0, full, 2), -1);
            Check.due("another's first stop", x.stop(0, (full + 1) % 8, 2), 1);
        }
    }

    /** NONE: there is none such WALK, PLACE. */
    private static void stopNone() {
        String[] texts = {EIGHT, TWO};
        for (String text : texts) {
            int places = Check.with(text).about(0, 0);
            for (int walks = 0; walks <= 8; walks++) {
                HiddenBarrel x = Check.with(text);
                for (int w = 0; w < walks; w++) {
                    x.walk(0);
                }
                Edges.refused("stop of a walk beyond " + walks, x, -1, (y, w) -> y.stop(0, w, 1), Edges.outside(0, walks - 1));
                if (walks > 0) {
                    Edges.refused("stop beyond", x, -1, (y, a) -> y.stop(0, 0, a), Edges.outside(0, places - 1));
                    Check.due("first stop", x.stop(0, walks - 1, places - 1), 1);
                    Check.due("second stop", x.stop(0, walks - 1, 0), 2);
                }
            }
        }
    }

    /** WEIGHT, 0 .. 99 (1 at first), from now on. */
    private static void weighNumbers() {
        HiddenBarrel x = Check.with(TWO);
        x.walk(0);
        Check.due("1 at first", x.where(0, 1), 999);
        for (int weight = 0; weight <= 99; weight++) {
            Check.due("weigh " + weight, x.weigh(0, 0, weight), true);
            Check.due("weight " + weight, x.where(0, 1), weight == 0 ? -1 : 999 * weight);
        }
        x.stop(0, 0, 1);
        Check.due("behind a stop still 99", x.where(0, 1), 99);
    }

    /** False: there is none such WALK, or another number. */
    private static void weighNone() {
        for (int walks = 0; walks <= 8; walks++) {
            HiddenBarrel x = Check.with(TWO);
            for (int w = 0; w < walks; w++) {
                x.walk(0);
            }
            Edges.refused("weigh of a walk beyond " + walks, x, 0, (y, w) -> y.weigh(0, w, 5) ? 1 : 0, Edges.outside(0, walks - 1));
            if (walks > 0) {
                int last = walks - 1;
                Check.due("weigh", x.weigh(0, last, 42), true);
                Edges.refused("weigh beyond", x, 0, (y, n) -> y.weigh(0, last, n) ? 1 : 0, Edges.outside(0, 99));
                Check.due("still 42", x.where(0, 1), (42 + last) * 999);
            }
        }
    }

    // ---- promises 12 and 13 ----

    /** 0 at PLACE 0, whatever the STOPS are. */
    private static void foundAtNought() {
        HiddenBarrel x = Check.with(EIGHT);
        x.walk(0);
        Check.due("without stops", x.found(0, 0, 0), 0);
        x.stop(0, 0, 7);
        Check.due("with others", x.found(0, 0, 0), 0);
        x.stop(0, 0, 0);
        Check.due("with a later one", x.found(0, 0, 0), 0);
        x.walk(0);
        x.stop(0, 1, 0);
        Check.due("with a first one", x.found(0, 1, 0), 0);
        x.stop(0, 1, 7);
        Check.due("behind it", x.found(0, 1, 7), 140);
    }

    /** NONE: it does not come there (through what lies between nobody looks). */
    private static void foundNotCome() {
        HiddenBarrel x = Check.with(EIGHT);
        x.walk(0);
        for (int a = 1; a < 8; a++) {
            Check.due("without stops at " + a, x.found(0, 0, a), -1);
        }
        x.stop(0, 0, 7);
        for (int a = 1; a < 7; a++) {
            Check.due("between, at " + a, x.found(0, 0, a), -1);
        }
        for (int k = 2; k < 16; k++) {
            x.stop(0, 0, k % 2 == 0 ? 0 : 7);
        }
        x.stop(0, 0, 6);
        Check.due("as the sixteenth stop", x.found(0, 0, 6), 15 * 140 + 20);
        Check.due("the first time", x.found(0, 0, 7), 140);
    }

    /** NONE: there is none such (of any). */
    private static void foundNone() {
        String[] texts = {EIGHT, TWO};
        for (String text : texts) {
            int places = Check.with(text).about(0, 0);
            for (int walks = 0; walks <= 8; walks++) {
                HiddenBarrel x = Check.with(text);
                for (int w = 0; w < walks; w++) {
                    x.walk(0);
                    x.stop(0, w, 1);
                }
                Edges.refused("found by a walk beyond " + walks, x, -1, (y, w) -> y.found(0, w, 1), Edges.outside(0, walks - 1));
                Edges.refused("found beyond", x, -1, (y, a) -> y.found(0, 0, a), Edges.outside(0, places - 1));
            }
        }
    }

    /** NONE: it does not come to all CELLARS; PLACE 0 needs no STOP, what is no CELLAR neither. */
    private static void meanAll() {
        HiddenBarrel x = Check.with("places 4;lane 0 1 3;lane 1 2 4;lane 1 3 5;chance 0 9;chance 2 2;chance 3 99;");
        x.walk(0);
        Check.due("no stop", x.mean(0, 0), -1);
        x.stop(0, 0, 2);
        Check.due("not at 3", x.mean(0, 0), -1);
        x.stop(0, 0, 1);
        Check.due("not at 3 yet", x.mean(0, 0), -1);
        x.stop(0, 0, 3);
        Check.due("at all", x.mean(0, 0), 2 * 7 + 99 * 16);
        HiddenBarrel nought = Check.with("places 2;lane 0 1 1;chance 0 99;");
        nought.walk(0);
        Check.due("PLACE 0 alone, no stop", nought.mean(0, 0), 0);
        HiddenBarrel full = Check.with(EIGHT + "chance 7 99;");
        full.walk(0);
        for (int k = 1; k < 16; k++) {
            full.stop(0, 0, k % 2 == 0 ? 0 : 6);
        }
        Check.due("not yet", full.mean(0, 0), -1);
        full.stop(0, 0, 7);
        Check.due("as late as can be", full.mean(0, 0), 99 * (15 * 120 + 20));
    }

    /** NONE: there is none such. */
    private static void meanNone() {
        for (int walks = 0; walks <= 8; walks++) {
            HiddenBarrel x = Check.with(TWO);
            for (int w = 0; w < walks; w++) {
                x.walk(0);
                x.stop(0, w, 1);
                Check.due("mean of " + w, x.mean(0, w), 99);
            }
            Edges.refused("mean of a walk beyond " + walks, x, -1, (y, w) -> y.mean(0, w), Edges.outside(0, walks - 1));
        }
    }

    // ---- promise 18 ----

    /** NONE: all WEIGHTS are 0 (no WALKS, too). */
    private static void whereNone() {
        HiddenBarrel x = Check.with(TWO);
        Check.due("no walks", x.where(0, 0), -1);
        Check.due("no walks, how much", x.where(0, 1), -1);
        for (int w = 0; w < 8; w++) {
            x.walk(0);
            Check.due("one weighs", x.where(0, 0), 1);
            Check.due("one weighs 1", x.where(0, 1), 999);
            x.weigh(0, w, 0);
            Check.due("none weighs", x.where(0, 0), -1);
            Check.due("none weighs, how much", x.where(0, 1), -1);
        }
        x.weigh(0, 7, 1);
        Check.due("the last one weighs", x.where(0, 1), 999);
        x.weigh(0, 7, 0);
        x.weigh(0, 0, 99);
        Check.due("the first one weighs", x.where(0, 1), 99 * 999);
    }

    /** One that does not come there has 999; PLACE 0 has 0. */
    private static void whereNotCome() {
        HiddenBarrel x = Check.with(EIGHT);
        for (int w = 0; w < 8; w++) {
            x.walk(0);
            x.weigh(0, w, 99);
        }
        Check.due("nobody comes", x.where(0, 0), 7);
        Check.due("eight times 99 * 999", x.where(0, 1), 8 * 99 * 999);
        HiddenBarrel nought = Check.with("places 2;lane 0 1 1;chance 0 7;");
        nought.walk(0);
        Check.due("PLACE 0 alone", nought.where(0, 0), 0);
        Check.due("0 minutes", nought.where(0, 1), 0);
        HiddenBarrel later = Check.with("places 3;lane 0 1 20;lane 1 2 20;chance 1 1;chance 2 1;");
        later.walk(0);
        for (int k = 0; k < 15; k++) {
            later.stop(0, 0, k % 2 == 0 ? 1 : 0);
        }
        later.stop(0, 0, 2);
        Check.due("come to as the sixteenth", later.where(0, 0), 2);
        Check.due("at 320, not 999", later.where(0, 1), 320);
    }

    /** Of several the least, where none is greater; what is no CELLAR doesn't count. */
    private static void whereLeast() {
        for (int first = 1; first < 7; first++) {
            StringBuilder s = new StringBuilder("places 8;");
            for (int a = 1; a < 8; a++) {
                s.append("lane 0 ").append(a).append(" 4;");
                if (a >= first) {
                    s.append("chance ").append(a).append(" 3;");
                }
            }
            HiddenBarrel x = Check.with(s.toString());
            x.walk(0);
            x.walk(0);
            Check.due("of several the least", x.where(0, 0), first);
            x.stop(0, 0, first);
            Check.due("but the first", x.where(0, 0), first + 1);
            x.stop(0, 1, first + 1);
            Check.due("of both sums, or of those beyond, the least", x.where(0, 0), first < 6 ? first + 2 : first);
            Check.due("sum", x.where(0, 1), first < 6 ? 1998 : 1003);
        }
    }

    /** NONE for another what. */
    private static void whereWhats() {
        Edges.whats("where", () -> {
            HiddenBarrel x = Check.with(TWO);
            x.walk(0);
            x.stop(0, 0, 1);
            return x;
        }, -1, (x, what) -> x.where(0, what), 1, 1);
        Edges.whats("where without walks", TWO, -1, (x, what) -> x.where(0, what), -1, -1);
    }
}
