/** The edges that promises 14 to 17, 19 to 24 and 31 to 34 name: who goes, where it lies best, rounds. */
public final class EdgesGoTest {
    private static final int[] NO_MINUTES = Edges.outside(1, 20);

    private EdgesGoTest() {
    }

    public static void main(String[] args) {
        bestWhats();
        bestLeastRow();
        twoWhats();
        twoLeastSet();
        barrelsWhats();
        barrelsOneCellar();
        moreMinutes();
        moreWhats();
        moreNoPlaces();
        bothUntold();
        bothWhats();
        bothSign();
        goesNone();
        treeLanes();
        densityEnds();
        densityNone();
        worthNone();
        roundNone();
        bellMinutes();
        bellWhats();
        postmanNone();
        guardOne();
        guardUntold();
        guardWhats();
        openNone();
        openWhats();
        Check.close("EdgesGoTest");
    }

    /** A star: each PLACE but 0 as far from 0; so many cellars from PLACE 1 on, and chances at 0. */
    private static String star(int places, int minutes, int cellars, int atNought) {
        StringBuilder s = new StringBuilder("places " + places + ";");
        for (int a = 1; a < places; a++) {
            s.append("lane 0 ").append(a).append(' ').append(minutes).append(';');
            if (a <= cellars) {
                s.append("chance ").append(a).append(" 1;");
            }
        }
        return s + (atNought > 0 ? "chance 0 " + atNought + ";" : "");
    }

    /** All lanes that there can be, between places 2 .. 6. */
    private static String complete(int places, int cellars) {
        StringBuilder s = new StringBuilder("places " + places + ";");
        for (int a = 0; a < places; a++) {
            for (int b = a + 1; b < places; b++) {
                s.append("lane ").append(a).append(' ').append(b).append(" 2;");
            }
        }
        for (int a = 1; a <= cellars; a++) {
            s.append("chance ").append(a).append(" 1;");
        }
        return s.toString();
    }

    // ---- promises 14, 15 ----

    /** What 0: MEAN, 1 + k: its k-th STOP; NONE: there is none such (of any): with no cellar away to seven. */
    private static void bestWhats() {
        for (int cellars = 0; cellars <= 7; cellars++) {
            long[] want = new long[1 + cellars];
            for (int k = 0; k < cellars; k++) {
                want[0] += 5 + 10 * k;
                want[1 + k] = 1 + k;
            }
            String text = star(8, 5, cellars, 3);
            Edges.whats("best of " + cellars, text, -1, (x, what) -> x.best(0, what), want);
        }
    }

    /** Of several the least row. */
    private static void bestLeastRow() {
        HiddenBarrel x = Check.with("places 4;lane 0 3 1;lane 3 1 1;lane 3 2 1;chance 1 5;chance 2 5;");
        Check.due("10 + 20", x.best(0, 0), 5 * 2 + 5 * 4);
        Check.due("1 first", x.best(0, 1), 1);
        Check.due("then 2", x.best(0, 2), 2);
        HiddenBarrel y = Check.with("places 4;lane 0 3 1;lane 3 1 1;lane 3 2 1;chance 1 5;chance 2 6;");
        Check.due("2 first, if it is likelier", y.best(0, 1), 2);
    }

    private static void twoWhats() {
        for (int cellars = 0; cellars <= 7; cellars++) {
            int[] sets = {0, 0, 2, 2, 6, 6, 14, 14};
            int[] means = {0, 5, 10, 25, 40, 65, 90, 125};
            int all = (1 << cellars + 1) - 2;
            Edges.whats("two of " + cellars, star(8, 5, cellars, 9), -1, (x, what) -> x.two(0, what),
                    means[cellars], sets[cellars], all - sets[cellars]);
        }
    }

    /** Of several parts that in which the first one's CELLARS are the least set: at most half of those with the others. */
    private static void twoLeastSet() {
        HiddenBarrel x = Check.with("places 3;lane 0 1 5;lane 0 2 9;chance 1 1;chance 2 99;");
        Check.due("the less of both", x.two(0, 1), 2);
        HiddenBarrel y = Check.with("places 3;lane 0 1 5;lane 0 2 9;chance 1 99;chance 2 1;");
        Check.due("the less of both again", y.two(0, 1), 2);
        HiddenBarrel z = Check.with("places 3;lane 0 1 5;lane 1 2 9;chance 1 9;chance 2 9;");
        Check.due("none, if it is no worse", z.two(0, 1), 0);
        Check.due("all", z.two(0, 2), 6);
    }

    // ---- promise 16 ----

    /** What 0: MEAN, 1 + k: the k-th STOP; NONE for another what: with 2 .. 8 cellars. */
    private static void barrelsWhats() {
        for (int cellars = 1; cellars <= 7; cellars++) {
            for (int nought = 0; nought <= 1; nought++) {
                if (cellars + nought > 1) {
                    long[] one = new long[1 + cellars];
                    long[] both = new long[1 + cellars];
                    for (int k = 0; k < cellars; k++) {
                        one[1 + k] = 1 + k;
                        both[1 + k] = 1 + k;
                        one[0] += (5 + 10 * k) * (cellars - 1 - k);
                        both[0] += (5 + 10 * k) * (k + nought);
                    }
                    String text = star(8, 5, cellars, nought);
                    Edges.whats("till one of " + cellars, text, -1, (x, what) -> x.barrels(0, false, what), one);
                    Edges.whats("till both of " + cellars, text, -1, (x, what) -> x.barrels(0, true, what), both);
                }
            }
        }
    }

    /** NONE: it has one CELLAR, at PLACE 0 or away. */
    private static void barrelsOneCellar() {
        String[] texts = {star(8, 5, 1, 0), star(8, 5, 0, 1), "places 2;lane 0 1 1;chance 0 9;chance 1 9;chance 1 0;"};
        for (String text : texts) {
            for (int what = 0; what < 3; what++) {
                Edges.refused("barrels of one cellar", text, -1, (x, w) -> x.barrels(0, true, w), what);
                Edges.refused("one barrel of one cellar", text, -1, (x, w) -> x.barrels(0, false, w), what);
            }
        }
    }

    // ---- promise 17 ----

    /** NONE: there are no such MINUTES: 1 and 20 can be. */
    private static void moreMinutes() {
        String text = "places 3;lane 0 1 20;lane 1 2 20;chance 2 1;";
        for (int what = 0; what < 3; what++) {
            int w = what;
            Edges.refused("more " + what, text, -1, (x, minutes) -> x.more(0, minutes, w), NO_MINUTES);
        }
        HiddenBarrel x = Check.with(text);
        for (int minutes = 1; minutes <= 20; minutes++) {
            Check.due("more by " + minutes, x.more(0, minutes, 0), minutes);
            Check.due("from", x.more(0, minutes, 1), 0);
            Check.due("to", x.more(0, minutes, 2), 2);
        }
    }

    private static void moreWhats() {
        Edges.whats("more", "places 3;lane 0 1 20;lane 1 2 20;chance 2 1;", -1, (x, what) -> x.more(0, 20, what), 20, 0, 2);
        Edges.whats("more for PLACE 0", "places 3;lane 0 1 20;lane 1 2 20;chance 0 1;", -1, (x, what) -> x.more(0, 7, what), 0, 0, 2);
        Edges.whats("more, the last two", "places 3;lane 0 1 9;lane 0 2 9;chance 2 1;", -1, (x, what) -> x.more(0, 20, what), 9, 1, 2);
    }

    /** NONE: no two PLACES without a LANE. */
    private static void moreNoPlaces() {
        for (int places = 2; places <= 6; places++) {
            int p = places;
            String full = complete(places, places - 1);
            for (int what = 0; what < 3; what++) {
                int w = what;
                Edges.refused("more of all lanes", full, -1, (x, minutes) -> x.more(0, minutes, w), 1, 2, 20);
            }
            if (places > 2) {
                String last = "lane " + (places - 2) + " " + (places - 1) + " 2;";
                HiddenBarrel x = Check.with(full.replace(last, ""));
                Check.due("the last two, of " + p, x.more(0, 1, 1), places - 2);
                Check.due("the last one, of " + p, x.more(0, 1, 2), places - 1);
            }
        }
    }

    // ---- promises 19, 20 ----

    /** It can be told if CELLARS but PLACE 0 are 1 .. 4. */
    private static void bothUntold() {
        for (int cellars = 0; cellars <= 7; cellars++) {
            for (int nought = 0; nought <= 1; nought++) {
                String text = star(8, 5, cellars, nought);
                boolean told = cellars >= 1 && cellars <= 4;
                HiddenBarrel x = Check.with(text.contains("chance") ? text : text + "chance 0 1;");
                if (told) {
                    Check.due("worth of " + cellars, x.both(0, 0), 5L * cellars * x.both(0, 1));
                    Check.due("first of " + cellars, x.goes(0, 0, 0) != Check.UNTOLD, true);
                    Check.due("guard of " + cellars, x.guard(0, 0), 1);
                    Check.due("open of " + cellars, x.open(0, 20, 0), 1);
                } else {
                    for (int what = -1; what < 20; what++) {
                        Check.due("both of " + cellars, x.both(0, what), Check.UNTOLD);
                        Check.due("goes of " + cellars, x.goes(0, what / 2, what & 1), Check.UNTOLD);
                        Check.due("guard of " + cellars, x.guard(0, what), Check.UNTOLD);
                        Check.due("open of " + cellars, x.open(0, 20, what), Check.UNTOLD);
                    }
                }
            }
        }
    }

    /** 10 + a: C of PLACE a, 0 if it is not of the KERNEL; another what can't be told. */
    private static void bothWhats() {
        String[] texts = {"places 2;lane 0 1 5;chance 1 1;", "places 3;lane 0 1 5;lane 1 2 6;chance 1 1;chance 2 1;chance 0 1;",
            "places 8;lane 0 1 5;lane 1 2 1;lane 2 3 1;lane 3 4 1;lane 4 5 1;lane 5 6 1;lane 6 7 1;chance 7 1;chance 1 1;"};
        int[] far = {1, 2, 7};
        int[] worth = {5, 11, 11};
        for (int i = 0; i < texts.length; i++) {
            int places = far[i] + 1;
            long[] want = new long[10 + places];
            for (int what = 3; what < 10; what++) {
                want[what] = Check.UNTOLD;
            }
            want[0] = worth[i];
            want[1] = 1;
            want[2] = 1;
            want[10 + far[i]] = 1;
            Edges.whats("both", texts[i], Check.UNTOLD, (x, what) -> x.both(0, what), want);
        }
    }

    /** All with the sign by which S is above 0: of 1 .. 4 cellars, C and R together are S. */
    private static void bothSign() {
        Towns drawn = new Towns(77);
        for (int i = 0; i < 60; i++) {
            HiddenBarrel x = Check.with(drawn.town(2, 8, 4).text());
            if (x.both(0, 2) != Check.UNTOLD) {
                long places = x.about(0, 0);
                long c = 0;
                long r = 0;
                for (int a = 0; a < places; a++) {
                    Check.due("C is not below 0", x.both(0, 10 + a) >= 0, true);
                    c += x.both(0, 10 + a);
                }
                for (int k = 0; k < x.both(0, 2); k++) {
                    Check.due("R is not below 0", x.goes(0, k, 1) >= 0, true);
                    r += x.goes(0, k, 1);
                }
                Check.due("S is above 0", x.both(0, 1) > 0, true);
                Check.due("all C", c, x.both(0, 1));
                Check.due("all R", r, x.both(0, 1));
            }
        }
    }

    /** There is none such: k is none of the KERNEL, or another what. */
    private static void goesNone() {
        String[] texts = {star(8, 5, 1, 0), star(8, 5, 2, 1), star(8, 5, 3, 0), star(8, 5, 4, 0)};
        for (String text : texts) {
            int size = (int) Check.with(text).both(0, 2);
            int cellars = Check.with(text).about(0, 2) - Check.with(text).about(0, 10);
            Check.due("as many as cellars", size, cellars);
            if (size != cellars) {
                continue;
            }
            for (int what = 0; what < 2; what++) {
                int w = what;
                Edges.refused("goes " + what, text, Check.UNTOLD, (x, k) -> x.goes(0, k, w), Edges.outside(0, size - 1));
            }
            for (int k = 0; k < size; k++) {
                int row = k;
                HiddenBarrel x = Check.with(text);
                Edges.whats("goes " + k, text, Check.UNTOLD, (y, what) -> y.goes(0, row, what), x.goes(0, k, 0), x.goes(0, k, 1));
                Check.due("it is told", x.goes(0, k, 0) >= 0 && x.goes(0, k, 1) >= 0, true);
            }
        }
    }

    // ---- promises 21 to 24 ----

    /** One LANE less than PLACES. */
    private static void treeLanes() {
        for (int places = 2; places <= 8; places++) {
            String text = star(places, 20, 1, 0);
            Check.due("a star of " + places, Check.with(text).tree(0), true);
            if (places > 2) {
                HiddenBarrel x = Check.with(text + "lane 1 2 1;");
                Check.due("one lane more, of " + places, x.tree(0), false);
                Check.due("its worth", x.worth(0), -1);
                for (int a = 0; a < places; a++) {
                    Check.due("its density", x.density(0, a, 0), -1);
                    Check.due("its density, below", x.density(0, a, 1), -1);
                    Check.due("its round", x.round(0, a), -1);
                }
            }
        }
    }

    /** At ENDS: PLACES with one LANE, but PLACE 0; 0 / 1 elsewhere. */
    private static void densityEnds() {
        HiddenBarrel row = Check.with("places 8;lane 0 1 20;lane 1 2 20;lane 2 3 20;lane 3 4 20;lane 4 5 20;lane 5 6 20;"
                + "lane 6 7 20;chance 0 1;");
        for (int a = 0; a < 8; a++) {
            Check.due("row above " + a, row.density(0, a, 0), a == 7 ? 1 : 0);
            Check.due("row below " + a, row.density(0, a, 1), 1);
        }
        HiddenBarrel star = Check.with("places 8;lane 0 1 14;lane 0 2 1;lane 0 3 2;lane 0 4 4;lane 0 5 7;lane 0 6 8;lane 0 7 20;"
                + "chance 0 1;");
        long[] above = {0, 1, 1, 1, 1, 1, 1, 5};
        long[] below = {1, 4, 56, 28, 14, 8, 7, 14};
        for (int a = 0; a < 8; a++) {
            Check.due("star above " + a, star.density(0, a, 0), above[a]);
            Check.due("star below " + a, star.density(0, a, 1), below[a]);
        }
        HiddenBarrel two = Check.with("places 2;lane 0 1 20;chance 0 1;");
        Check.due("PLACE 0 has one lane, but is no end", two.density(0, 0, 0), 0);
        Check.due("0 / 1", two.density(0, 0, 1), 1);
        Check.due("the other one", two.density(0, 1, 0), 1);
        Check.due("1 / 1", two.density(0, 1, 1), 1);
    }

    /** NONE: there is none such, or for another what. */
    private static void densityNone() {
        for (int places = 2; places <= 8; places++) {
            String text = star(places, 20, 1, 0);
            for (int what = 0; what < 2; what++) {
                int w = what;
                Edges.refused("density " + what, text, -1, (x, a) -> x.density(0, a, w), Edges.outside(0, places - 1));
            }
            int last = places - 1;
            Edges.whats("density of the last", text, -1, (x, what) -> x.density(0, last, what), 1, last);
            Edges.whats("density of PLACE 0", text, -1, (x, what) -> x.density(0, 0, what), 0, 1);
        }
    }

    private static void worthNone() {
        for (int places = 2; places <= 8; places++) {
            Check.due("worth of " + places, Check.with(star(places, 20, 1, 0)).worth(0), 20 * (places - 1));
            Check.due("least worth of " + places, Check.with(star(places, 1, 1, 0)).worth(0), places - 1);
        }
    }

    /** 0 at PLACE 0; NONE: there is none such. */
    private static void roundNone() {
        for (int places = 2; places <= 8; places++) {
            String text = star(places, 3, 1, 0);
            Edges.refused("round", text, -1, (x, a) -> x.round(0, a), Edges.outside(0, places - 1));
            HiddenBarrel x = Check.with(text);
            for (int a = 0; a < places; a++) {
                Check.due("round of " + a, x.round(0, a), a == 0 ? 0 : 2 * 3 * (places - 1));
            }
        }
    }

    // ---- promises 31, 32 ----

    /** MINUTES told, 0 .. 999, at most: what takes as many is still done, what takes one more is not. */
    private static void bellMinutes() {
        String text = star(8, 20, 7, 1) + "dig 0 99;dig 1 99;dig 2 99;dig 3 99;dig 4 99;dig 5 99;dig 6 99;";
        for (int dig = 44; dig <= 48; dig++) {
            int all = 7 * 99 + dig + 20 + 6 * 40;
            HiddenBarrel x = Check.with(text + "dig 7 " + dig + ";");
            Check.due("all at 999, if they take " + all, x.bell(0, 999, 0), all <= 999 ? 96 : 84);
            Check.due("minutes", x.bell(0, 999, 1), all <= 999 ? all : all - 139);
            Check.due("set", x.bell(0, 999, 2), all <= 999 ? 255 : 191);
            for (int n : Edges.outside(0, 999)) {
                Check.due("bell at " + n, x.bell(0, n, n & 7), -1);
            }
        }
        HiddenBarrel x = Check.with("places 2;lane 0 1 7;chance 1 4;chance 0 1;dig 0 8;dig 1 9;");
        int[] at = {0, 7, 8, 15, 16, 23, 24, 999};
        int[] smell = {0, 0, 12, 12, 48, 48, 60, 60};
        int[] minutes = {0, 0, 8, 8, 16, 16, 24, 24};
        int[] set = {0, 0, 1, 1, 2, 2, 3, 3};
        for (int i = 0; i < at.length; i++) {
            Check.due("smell at " + at[i], x.bell(0, at[i], 0), smell[i]);
            Check.due("minutes at " + at[i], x.bell(0, at[i], 1), minutes[i]);
            Check.due("set at " + at[i], x.bell(0, at[i], 2), set[i]);
        }
    }

    /** 3 + k: the k-th CELLAR of the row; NONE for another what: with nothing, one, eight. */
    private static void bellWhats() {
        for (int cellars = 0; cellars <= 7; cellars++) {
            int c = cellars;
            long[] want = new long[4 + cellars];
            want[0] = 12 * (cellars + 1);
            want[1] = cellars + 1 + (cellars == 0 ? 0 : 20 * cellars - 10);
            want[2] = (1 << cellars + 1) - 1;
            for (int k = 0; k <= cellars; k++) {
                want[3 + k] = k;
            }
            Edges.whats("bell of " + cellars, star(8, 10, cellars, 1), -1, (x, what) -> x.bell(0, 200, what), want);
            Edges.whats("bell of " + c + " at 0", star(8, 10, cellars, 1), -1, (x, what) -> x.bell(0, 0, what), 0, 0, 0);
        }
    }

    /** 10 + a: the fellow of PLACE a; NONE: it has none, or for another what. */
    private static void postmanNone() {
        long[] row = {14, -1, -1, -1, -1, -1, -1, -1, -1, -1, 7, -1, -1, -1, -1, -1, -1, 0};
        Edges.whats("postman in a row", "places 8;lane 0 1 1;lane 1 2 1;lane 2 3 1;lane 3 4 1;lane 4 5 1;lane 5 6 1;lane 6 7 1;chance 0 1;",
                -1, (x, what) -> x.postman(0, what), row);
        long[] two = {40, -1, -1, -1, -1, -1, -1, -1, -1, -1, 1, 0};
        Edges.whats("postman of two", "places 2;lane 0 1 20;chance 0 1;", -1, (x, what) -> x.postman(0, what), two);
        long[] ring = {12, -1, -1, -1, -1, -1, -1, -1, -1, -1, -1, -1, -1};
        Edges.whats("postman in a ring", "places 3;lane 0 1 3;lane 1 2 4;lane 2 0 5;chance 0 1;", -1, (x, what) -> x.postman(0, what), ring);
        long[] all = {32, -1, -1, -1, -1, -1, -1, -1, -1, -1, 1, 0, 3, 2};
        Edges.whats("postman by all lanes, of several couplings the least row", "places 4;lane 0 1 4;lane 0 2 4;lane 0 3 4;"
                + "lane 1 2 4;lane 1 3 4;lane 2 3 4;chance 0 1;", -1, (x, what) -> x.postman(0, what), all);
    }

    // ---- promises 33, 34 ----

    /** Of one alone nothing is left: 0 and 1. */
    private static void guardOne() {
        for (int a = 1; a < 8; a++) {
            String text = star(8, 5, 0, 0) + "chance " + a + " 1;";
            Edges.whats("guard of " + a + " alone", text, Check.UNTOLD, (x, what) -> x.guard(0, what), a, 0, 1);
            Edges.whats("guard of " + a + " and PLACE 0", text + "chance 0 9;", Check.UNTOLD, (x, what) -> x.guard(0, what), a, 0, 1);
        }
    }

    /** It can't be told without a cellar away, and with five, though four are left of those. */
    private static void guardUntold() {
        int[] none = {0, 5, 6, 7};
        for (int cellars : none) {
            Edges.whats("guard of " + cellars, star(8, 5, cellars, 1), Check.UNTOLD, (x, what) -> x.guard(0, what), Check.UNTOLD);
        }
    }

    /** Of several the least; PLACE 0 is never shut. */
    private static void guardWhats() {
        Edges.whats("guard of two", star(8, 5, 2, 7), Check.UNTOLD, (x, what) -> x.guard(0, what), 1, 5, 1);
        Edges.whats("guard of the farther one", "places 3;lane 0 1 5;lane 0 2 6;chance 1 1;chance 2 1;", Check.UNTOLD,
                (x, what) -> x.guard(0, what), 2, 5, 1);
        HiddenBarrel x = Check.with(star(8, 5, 4, 7));
        Check.due("guard of four", x.guard(0, 0), 1);
        Check.due("three are left", x.guard(0, 1), 15 * x.guard(0, 2));
        HiddenBarrel y = Check.with("places 5;lane 0 1 5;lane 0 2 5;lane 0 3 5;lane 0 4 6;chance 1 1;chance 2 1;chance 3 1;chance 4 1;");
        Check.due("the last of four", y.guard(0, 0), 4);
    }

    /** There are no such MINUTES, or no two PLACES without a LANE. */
    private static void openNone() {
        String text = "places 3;lane 0 1 20;lane 1 2 20;chance 2 1;";
        for (int what = 0; what < 4; what++) {
            int w = what;
            Edges.refused("open " + what, text, Check.UNTOLD, (x, minutes) -> x.open(0, minutes, w), NO_MINUTES);
            for (int places = 2; places <= 5; places++) {
                Edges.refused("open of all lanes", complete(places, places - 1), Check.UNTOLD, (x, minutes) -> x.open(0, minutes, w), 1, 2, 20);
            }
        }
        HiddenBarrel x = Check.with(text);
        for (int minutes = 1; minutes <= 20; minutes++) {
            Check.due("open by " + minutes, x.open(0, minutes, 2), minutes);
        }
    }

    private static void openWhats() {
        Edges.whats("open", "places 3;lane 0 1 20;lane 1 2 20;chance 2 1;", Check.UNTOLD, (x, what) -> x.open(0, 20, what), 0, 2, 20, 1);
        Edges.whats("open, of several the least", "places 4;lane 0 1 5;lane 0 2 5;lane 0 3 5;chance 1 1;", Check.UNTOLD,
                (x, what) -> x.open(0, 1, what), 1, 2, 5, 1);
        Edges.whats("open, of no use", "places 3;lane 0 1 5;lane 0 2 5;chance 1 1;chance 0 1;", Check.UNTOLD,
                (x, what) -> x.open(0, 20, what), 1, 2, 5, 1);
    }
}
