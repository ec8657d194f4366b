/** Promises 21 to 24 and 32: tree, density, worth, round, postman. */
public final class TreesTest {
    private static final String TOWN = "places 4;lane 0 1 3;lane 1 2 4;lane 1 3 5;chance 2 2;chance 3 3;";
    /**
     * From 0: to 1 (2 minutes), from there to 2 (1) and 3 (4), from 3 on to 5 (6); and to 4 (3), an
     * end. Branches: 1: 13, 4: 3, 2: 1, 3: 10, 5: 6.
     */
    private static final String DEEP = "places 6;lane 0 1 2;lane 1 2 1;lane 1 3 4;lane 3 5 6;lane 0 4 3;chance 0 1;";
    private static final String RING = "places 4;lane 0 1 3;lane 1 2 4;lane 2 3 5;lane 3 0 6;chance 2 2;";

    private TreesTest() {
    }

    public static void main(String[] args) {
        tree();
        density();
        worth();
        round();
        postman();
        Check.close("TreesTest");
    }

    private static void tree() {
        Check.due("tree", Check.with(TOWN).tree(0), true);
        Check.due("deep tree", Check.with(DEEP).tree(0), true);
        Check.due("ring", Check.with(RING).tree(0), false);
        Check.due("two places", Check.with("places 2;lane 0 1 1;chance 0 1;").tree(0), true);
        HiddenBarrel x = Check.with(TOWN);
        Check.due("tree of town 1", x.tree(1), false);
        Check.due("tree of town -1", x.tree(-1), false);
        Check.due("tree of town MAX", x.tree(Integer.MAX_VALUE), false);
    }

    private static void density() {
        HiddenBarrel x = Check.with(TOWN);
        long[][] small = {{0, 1}, {0, 1}, {4, 9}, {5, 9}};
        HiddenBarrel y = Check.with(DEEP);
        long[][] deep = {{0, 1}, {0, 1}, {13, 176}, {0, 1}, {3, 16}, {65, 88}};
        for (int what = 0; what < 2; what++) {
            for (int a = 0; a < 4; a++) {
                Check.due("density " + a + " " + what, x.density(0, a, what), small[a][what]);
            }
            for (int a = 0; a < 6; a++) {
                Check.due("deep density " + a + " " + what, y.density(0, a, what), deep[a][what]);
            }
        }
        Check.due("density of 4", x.density(0, 4, 0), -1);
        Check.due("density of -1", x.density(0, -1, 1), -1);
        Check.due("density of MAX", x.density(0, Integer.MAX_VALUE, 0), -1);
        Check.due("density 2", x.density(0, 2, 2), -1);
        Check.due("density -1", x.density(0, 2, -1), -1);
        Check.due("density of town 1", x.density(1, 2, 0), -1);
        Check.due("density of town -1", x.density(-1, 2, 0), -1);
        Check.due("density of a ring", Check.with(RING).density(0, 2, 0), -1);
        HiddenBarrel row = Check.with("places 3;lane 0 1 2;lane 1 2 2;chance 0 1;");
        Check.due("place 0 is no end", row.density(0, 0, 0), 0);
        Check.due("place 0, below", row.density(0, 0, 1), 1);
        Check.due("the one end", row.density(0, 2, 0), 1);
        Check.due("the one end, below", row.density(0, 2, 1), 1);
    }

    private static void worth() {
        HiddenBarrel x = Check.with(TOWN);
        Check.due("worth", x.worth(0), 12);
        Check.due("worth of town 1", x.worth(1), -1);
        Check.due("worth of town -1", x.worth(-1), -1);
        Check.due("deep worth", Check.with(DEEP).worth(0), 16);
        Check.due("worth of a ring", Check.with(RING).worth(0), -1);
    }

    private static void round() {
        HiddenBarrel x = Check.with(TOWN);
        int[] small = {0, 6, 24, 24};
        for (int a = 0; a < 4; a++) {
            Check.due("round " + a, x.round(0, a), small[a]);
        }
        HiddenBarrel y = Check.with(DEEP);
        int[] deep = {0, 2 + 8, 3 + 29, 8 + 12, 3 + 29, 14 + 18};
        for (int a = 0; a < 6; a++) {
            Check.due("deep round " + a, y.round(0, a), deep[a]);
        }
        Check.due("round of 4", x.round(0, 4), -1);
        Check.due("round of -1", x.round(0, -1), -1);
        Check.due("round of MIN", x.round(0, Integer.MIN_VALUE), -1);
        Check.due("round of town 1", x.round(1, 0), -1);
        Check.due("round of a ring", Check.with(RING).round(0, 0), -1);
    }

    private static void postman() {
        HiddenBarrel x = Check.with(TOWN);
        int[] want = {24, -1, -1, -1, -1, -1, -1, -1, -1, -1, 1, 0, 3, 2, -1, -1};
        for (int what = 0; what < want.length; what++) {
            Check.due("postman " + what, x.postman(0, what), want[what]);
        }
        Check.due("postman -1", x.postman(0, -1), -1);
        Check.due("postman MIN", x.postman(0, Integer.MIN_VALUE), -1);
        Check.due("postman MIN + 10", x.postman(0, Integer.MIN_VALUE + 10), -1);
        Check.due("postman MAX", x.postman(0, Integer.MAX_VALUE), -1);
        Check.due("postman of town 1", x.postman(1, 0), -1);
        Check.due("postman of town -1", x.postman(-1, 10), -1);
        HiddenBarrel ring = Check.with(RING);
        Check.due("ring", ring.postman(0, 0), 18);
        Check.due("ring's fellow", ring.postman(0, 10), -1);
        HiddenBarrel chord = Check.with("places 4;lane 0 1 3;lane 1 2 4;lane 2 3 5;lane 3 0 6;lane 1 3 20;chance 2 2;");
        Check.due("38 + 9 back around", chord.postman(0, 0), 47);
        Check.due("0 is even", chord.postman(0, 10), -1);
        Check.due("1's fellow", chord.postman(0, 11), 3);
        Check.due("2 is even", chord.postman(0, 12), -1);
        Check.due("3's fellow", chord.postman(0, 13), 1);
        HiddenBarrel star = Check.with("places 8;lane 0 1 1;lane 0 2 2;lane 0 3 3;lane 0 4 4;lane 0 5 5;lane 0 6 6;"
                + "lane 0 7 7;chance 1 1;");
        Check.due("a fellow, asked first", star.postman(0, 17), 6);
        Check.due("each lane twice", star.postman(0, 0), 56);
        Check.due("postman 18 of eight places", star.postman(0, 18), -1);
        Check.town(star, TOWN);
        Check.due("another town's fellow, asked first", star.postman(1, 11), 0);
        Check.due("a fellow of the first town again", star.postman(0, 11), 0);
        Check.due("a fellow of the first town again", star.postman(0, 14), 5);
        int[] fellow = {1, 0, 3, 2, 5, 4, 7, 6};
        for (int a = 0; a < 8; a++) {
            Check.due("the least row, " + a, star.postman(0, 10 + a), fellow[a]);
        }
        HiddenBarrel far = Check.with("places 4;lane 0 1 9;lane 0 2 1;lane 0 3 9;lane 1 3 2;lane 1 2 9;lane 2 3 9;chance 1 1;");
        Check.due("39 + 1 + 2", far.postman(0, 0), 42);
        Check.due("far fellow of 0", far.postman(0, 10), 2);
        Check.due("far fellow of 1", far.postman(0, 11), 3);
    }
}
