/** Promises 6 to 8: about, lane, way. */
public final class AboutTest {
    private AboutTest() {
    }

    public static void main(String[] args) {
        about();
        struck();
        lane();
        way();
        Check.close("AboutTest");
    }

    private static void about() {
        HiddenBarrel x = Check.with("places 3;lane 0 1 7;lane 1 2 4;lane 2 0 2;chance 2 99;chance 0 4;"
                + "dog 1 3;dig 2 45;prize 321;move 6;");
        int[] want = {3, 3, 103, 5, 321, 6, 0, 0, -1, -1, 4, 0, 99, -1};
        for (int what = 0; what < want.length; what++) {
            Check.due("about " + what, x.about(0, what), want[what]);
        }
        Check.due("about 20", x.about(0, 20), 12);
        Check.due("about 21", x.about(0, 21), 3);
        Check.due("about 22", x.about(0, 22), 12);
        Check.due("about 23", x.about(0, 23), -1);
        Check.due("about 30", x.about(0, 30), 1);
        Check.due("about 31", x.about(0, 31), 1);
        Check.due("about 32", x.about(0, 32), 45);
        Check.due("about 33", x.about(0, 33), -1);
        int[] wrong = {-1, -2, 9, 17, 18, 19, 28, 38, 40, 100, Integer.MIN_VALUE, Integer.MAX_VALUE, Integer.MIN_VALUE + 10};
        for (int what : wrong) {
            Check.due("about " + what, x.about(0, what), -1);
        }
        int[] none = {-1, 1, 2, 3, Integer.MIN_VALUE, Integer.MAX_VALUE};
        for (int town : none) {
            Check.due("about of " + town, x.about(town, 0), -1);
        }
        x.walk(0);
        x.walk(0);
        x.diary(0, 0);
        Check.due("walks", x.about(0, 6), 2);
        Check.due("days", x.about(0, 7), 1);
        Check.town(x, "places 2;lane 0 1 7;chance 1 1;");
        Check.due("another's walks", x.about(1, 6), 0);
        Check.due("another's days", x.about(1, 7), 0);
        Check.due("another's places", x.about(1, 0), 2);
        Check.due("another's prize", x.about(1, 4), 0);
        Check.due("another's move", x.about(1, 5), 0);
        Check.due("another's dog", x.about(1, 21), 12);
        Check.due("another's dig", x.about(1, 31), 1);
    }

    /** Later ones strike. */
    private static void struck() {
        HiddenBarrel x = Check.with("places 2;chance 0 5;chance 1 6;chance 0 0;dog 1 3;dog 1 4;dig 1 9;dig 1 8;"
                + "prize 3;prize 2;move 5;move 0;lane 1 0 2;");
        Check.due("cellars", x.about(0, 3), 2);
        Check.due("all", x.about(0, 2), 6);
        Check.due("chance 0", x.about(0, 10), 0);
        Check.due("dog", x.about(0, 21), 4);
        Check.due("dig", x.about(0, 31), 8);
        Check.due("prize", x.about(0, 4), 2);
        Check.due("move", x.about(0, 5), 0);
    }

    private static void lane() {
        HiddenBarrel x = Check.with("places 3;lane 0 1 7;lane 2 1 4;chance 2 1;");
        Check.due("lane 0 1", x.lane(0, 0, 1), 7);
        Check.due("lane 1 0", x.lane(0, 1, 0), 7);
        Check.due("lane 1 2", x.lane(0, 1, 2), 4);
        Check.due("lane 2 1", x.lane(0, 2, 1), 4);
        Check.due("lane 0 2", x.lane(0, 0, 2), -1);
        Check.due("lane 1 1", x.lane(0, 1, 1), -1);
        Check.due("lane 0 3", x.lane(0, 0, 3), -1);
        Check.due("lane 3 0", x.lane(0, 3, 0), -1);
        Check.due("lane -1 0", x.lane(0, -1, 0), -1);
        Check.due("lane 0 -1", x.lane(0, 0, -1), -1);
        Check.due("lane 8 8", x.lane(0, 8, 8), -1);
        Check.due("lane MIN", x.lane(0, Integer.MIN_VALUE, Integer.MAX_VALUE), -1);
        Check.due("lane of town 1", x.lane(1, 0, 1), -1);
        Check.due("lane of town -1", x.lane(-1, 0, 1), -1);
    }

    private static void way() {
        HiddenBarrel x = Check.with("places 4;lane 0 1 7;lane 2 1 4;lane 0 2 20;lane 3 2 1;lane 3 0 9;chance 2 1;");
        int[][] want = {{0, 7, 10, 9}, {7, 0, 4, 5}, {10, 4, 0, 1}, {9, 5, 1, 0}};
        for (int a = 0; a < 4; a++) {
            for (int b = 0; b < 4; b++) {
                Check.due("way " + a + " " + b, x.way(0, a, b), want[a][b]);
            }
        }
        Check.due("way 0 4", x.way(0, 0, 4), -1);
        Check.due("way 4 0", x.way(0, 4, 0), -1);
        Check.due("way 0 -1", x.way(0, 0, -1), -1);
        Check.due("way -1 0", x.way(0, -1, 0), -1);
        Check.due("way MAX", x.way(0, Integer.MAX_VALUE, 0), -1);
        Check.due("way of town 1", x.way(1, 0, 1), -1);
        HiddenBarrel y = Check.with("places 8;lane 7 6 20;lane 6 5 20;lane 5 4 20;lane 4 3 20;lane 3 2 20;lane 2 1 20;"
                + "lane 1 0 20;chance 0 1;");
        Check.due("the longest way", y.way(0, 0, 7), 140);
        Check.due("the longest way back", y.way(0, 7, 0), 140);
    }
}
