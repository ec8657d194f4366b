import java.math.BigInteger;
import java.util.ArrayList;
import java.util.List;

/** The edges that promises 25 to 30 and 35 to 40 name: looks, nights, a box, the diary. */
public final class EdgesFindTest {
    private static final long TO_8 = 429981696L;
    private static final String MOVED = "places 3;lane 0 1 2;lane 0 2 2;chance 0 6;chance 1 3;dog 0 6;move 3;";

    private EdgesFindTest() {
    }

    public static void main(String[] args) {
        lookNone();
        lookEightAtOne();
        lookEqual();
        leftNumbers();
        gainNumbers();
        gainGreatest();
        leaveEnds();
        chaseDays();
        chaseWhats();
        caughtDays();
        caughtGreatest();
        rightSets();
        rightBoxes();
        boxNumbers();
        boxLeast();
        diaryFull();
        diaryNone();
        forgetTells();
        likelyFirst();
        likelyCannotBe();
        likelyNone();
        likelyGreatest();
        nextNone();
        nextLeast();
        Check.close("EdgesFindTest");
    }

    /** A star of eight places; the first so many places, from 0 on, are cellars. */
    private static String cellars(int n, String of) {
        StringBuilder s = new StringBuilder("places 8;");
        for (int a = 1; a < 8; a++) {
            s.append("lane 0 ").append(a).append(" 1;");
        }
        for (int a = 0; a < n; a++) {
            s.append("chance ").append(a).append(" 1;");
        }
        return s + of;
    }

    // ---- promises 25 to 28 ----

    /** NONE: there is none such: eight looks of each cellar, 64 of eight. */
    private static void lookNone() {
        for (int n = 1; n <= 8; n++) {
            String text = cellars(n, "");
            Edges.refused("look of " + n, text, -1, (x, k) -> x.look(0, k), Edges.outside(0, 8 * n - 1));
            HiddenBarrel x = Check.with(text);
            for (int k = 0; k < 8 * n; k++) {
                Check.due("look " + k + " of " + n, x.look(0, k), k < n ? k : (k - n) / 7);
            }
        }
    }

    /** At most 8 looks at a CELLAR (then no more of it), though it were likelier there. */
    private static void lookEightAtOne() {
        HiddenBarrel x = Check.with("places 2;lane 0 1 1;chance 0 99;chance 1 1;dog 0 1;dog 1 1;dig 1 99;");
        for (int k = 0; k < 16; k++) {
            Check.due("look " + k, x.look(0, k), k < 8 ? 0 : 1);
        }
        Check.due("look 16", x.look(0, 16), -1);
        HiddenBarrel y = Check.with("places 2;lane 0 1 1;chance 0 1;chance 1 99;dog 0 12;dog 1 12;dig 1 99;");
        int[] want = {0, 1, 0, 0, 0, 0, 0, 0, 0, 1, 1, 1, 1, 1, 1, 1};
        for (int k = 0; k < 16; k++) {
            Check.due("sure looks, " + k, y.look(0, k), want[k]);
        }
    }

    /** Of several the least: by chances, dogs, digging and looks before that come to the same. */
    private static void lookEqual() {
        HiddenBarrel x = Check.with("places 3;lane 0 1 1;lane 0 2 1;chance 0 9;chance 1 6;chance 2 3;dog 0 4;dog 1 6;dog 2 12;"
                + "dig 0 99;dig 1 99;dig 2 99;");
        int[] want = {0, 1, 2, 0, 1};
        for (int k = 0; k < 5; k++) {
            Check.due("equal look " + k, x.look(0, k), want[k]);
        }
        HiddenBarrel y = Check.with("places 2;lane 0 1 1;chance 0 98;chance 1 99;dig 0 98;dig 1 99;");
        Check.due("a minute's worth each", y.look(0, 0), 0);
        HiddenBarrel z = Check.with("places 2;lane 0 1 1;chance 0 97;chance 1 99;dig 0 98;dig 1 99;");
        Check.due("a little more at the other one", z.look(0, 0), 1);
        HiddenBarrel half = Check.with("places 2;lane 0 1 1;chance 0 8;chance 1 1;dog 0 6;dog 1 6;");
        int[] row = {0, 0, 0, 0, 1, 0, 1, 0, 1, 0, 1, 0};
        for (int k = 0; k < row.length; k++) {
            Check.due("halves, look " + k, half.look(0, k), row[k]);
        }
    }

    /** n 0 .. 64; as many as there are, if n is more. */
    private static void leftNumbers() {
        for (int n = 1; n <= 8; n++) {
            String text = cellars(n, "dog 0 1;");
            Edges.refused("left of " + n, text, -1, (x, k) -> x.left(0, k), Edges.outside(0, 64));
            HiddenBarrel x = Check.with(text);
            Check.due("left at first", x.left(0, 0), n * TO_8);
            for (int k = 8 * n; k <= 64; k++) {
                Check.due("left behind " + k + " of " + n, x.left(0, k), 214358881L);
            }
            Check.due("one look before", x.left(0, 8 * n - 1) >= 214358881L, true);
        }
        HiddenBarrel x = Check.with("places 2;lane 0 1 1;chance 1 99;dog 1 1;");
        long want = 99 * TO_8;
        for (int k = 0; k <= 8; k++) {
            Check.due("left behind " + k, x.left(0, k), want);
            want = want / 12 * 11;
        }
    }

    private static void gainNumbers() {
        for (int n = 1; n <= 8; n++) {
            String text = cellars(n, "prize 100;");
            Edges.refused("gain of " + n, text, Check.NO_GAIN, (x, k) -> x.gain(0, k), Edges.outside(0, 64));
            HiddenBarrel x = Check.with(text);
            Check.due("gain of no looks", x.gain(0, 0), 0);
            for (int k = n; k <= 64; k++) {
                Check.due("gain of " + k + " looks at " + n, x.gain(0, k), (100L * n - n * (n + 1) / 2) * TO_8);
            }
        }
    }

    /** The greatest PRIZE, and the longest digs, in long numbers. */
    private static void gainGreatest() {
        StringBuilder s = new StringBuilder(cellars(0, ""));
        for (int a = 0; a < 8; a++) {
            s.append("chance ").append(a).append(" 99;dog ").append(a).append(" 1;dig ").append(a).append(" 99;");
        }
        String[] prizes = {"prize 0;", "prize 999;"};
        for (String prize : prizes) {
            HiddenBarrel x = Check.with(s + prize);
            Slow t = new SlowText(s + prize).town;
            List<Integer> order = t.order();
            for (int n = 0; n <= 64; n++) {
                Check.due("greatest left " + n, x.left(0, n), t.left(order, n));
                Check.due("greatest gain " + n, x.gain(0, n), t.gain(order, n));
            }
            Check.due("greatest leave", x.leave(0), t.leave(order));
        }
    }

    /** The n, 0 .. 64, of the greatest GAIN; of several the least. */
    private static void leaveEnds() {
        for (int n = 1; n <= 8; n++) {
            Check.due("no prize", Check.with(cellars(n, "")).leave(0), 0);
            Check.due("a sure prize", Check.with(cellars(n, "prize 999;")).leave(0), n);
            StringBuilder s = new StringBuilder(cellars(n, "prize 999;"));
            for (int a = 0; a < n; a++) {
                s.append("dog ").append(a).append(" 1;");
            }
            Check.due("all looks", Check.with(s.toString()).leave(0), 8 * n);
        }
        Check.due("a look that costs its worth", Check.with("places 2;lane 0 1 1;chance 0 1;dig 0 99;prize 99;").leave(0), 0);
        Check.due("one more", Check.with("places 2;lane 0 1 1;chance 0 1;dig 0 99;prize 100;").leave(0), 1);
        Check.due("the second costs its worth", Check.with("places 2;lane 0 1 1;chance 0 2;chance 1 1;prize 1;dig 1 1;").leave(0), 0);
        Check.due("the first is worth it, the second costs its worth",
                Check.with("places 2;lane 0 1 1;chance 0 2;chance 1 1;dig 1 2;prize 2;").leave(0), 1);
    }

    // ---- promises 29, 30 ----

    /** 1 to 5 of them; else NONE. */
    private static void chaseDays() {
        for (int what = 0; what < 5; what++) {
            int w = what;
            Edges.refused("chase " + what, MOVED, -1, (x, days) -> x.chase(0, days, w), Edges.outside(1, 5));
        }
        HiddenBarrel x = Check.with(MOVED);
        Slow t = new SlowText(MOVED).town;
        for (int days = 1; days <= 5; days++) {
            t.chase(days);
            for (int k = 0; k < days; k++) {
                Check.due("chase of " + days + ", day " + k, x.chase(0, days, k), t.chaseRow[k]);
            }
        }
    }

    private static void chaseWhats() {
        String text = "places 2;lane 0 1 1;chance 1 1;move 12;";
        for (int days = 1; days <= 5; days++) {
            int d = days;
            long[] row = new long[days];
            row[0] = days == 1 ? 1 : 0;
            Edges.whats("chase of " + days, text, -1, (x, what) -> x.chase(0, d, what), row);
        }
    }

    private static void caughtDays() {
        Edges.refused("caught", MOVED, -1, (x, days) -> x.caught(0, days), Edges.outside(1, 5));
        HiddenBarrel x = Check.with("places 2;lane 0 1 1;chance 1 1;");
        long want = 144;
        for (int days = 1; days <= 5; days++) {
            Check.due("surely in " + days, x.caught(0, days), want);
            want *= 144;
        }
    }

    /** All CHANCES, five days: in long numbers. */
    private static void caughtGreatest() {
        StringBuilder s = new StringBuilder(cellars(0, "move 1;"));
        for (int a = 0; a < 8; a++) {
            s.append("chance ").append(a).append(" 99;");
        }
        HiddenBarrel x = Check.with(s.toString());
        Slow t = new SlowText(s.toString()).town;
        for (int days = 1; days <= 5; days++) {
            t.chase(days);
            Check.due("greatest caught in " + days, x.caught(0, days), t.chaseFound);
            for (int k = 0; k < days; k++) {
                Check.due("greatest chase of " + days + ", day " + k, x.chase(0, days, k), t.chaseRow[k]);
            }
        }
    }

    // ---- promises 35, 36 ----

    /** NONE: bits that are no PLACES. */
    private static void rightSets() {
        for (int places = 2; places <= 8; places++) {
            StringBuilder s = new StringBuilder("places " + places + ";chance 0 99;");
            for (int a = 1; a < places; a++) {
                s.append("lane 0 ").append(a).append(" 1;");
            }
            int all = (1 << places) - 1;
            HiddenBarrel x = Check.with(s.toString());
            for (int set = 0; set <= all; set++) {
                Check.due("right for " + set, x.right(0, 12, set), 99 * 12);
            }
            Edges.refused("right", s.toString(), -1, (y, set) -> y.right(0, 12, set), Edges.outside(0, all));
            for (int bit = places; bit < 32; bit++) {
                int b = 1 << bit;
                Edges.refused("right with bit " + bit, s.toString(), -1, (y, set) -> y.right(0, 0, set | b), 0, 1, all);
            }
        }
    }

    /** BOX of h, 0 .. 12; else NONE. */
    private static void rightBoxes() {
        String text = "places 2;lane 0 1 1;chance 0 5;chance 1 7;";
        Edges.refused("right", text, -1, (x, h) -> x.right(0, h, 1), Edges.outside(0, 12));
        HiddenBarrel x = Check.with(text);
        for (int h = 0; h <= 12; h++) {
            int in = Math.max(5 * h, 7 * (12 - h));
            int not = Math.max(5 * (12 - h), 7 * h);
            Check.due("right by " + h, x.right(0, h, 1), in + not);
            Check.due("right by " + h + " for none", x.right(0, h, 0), 7 * 12);
            Check.due("right by " + h + " for all", x.right(0, h, 3), 7 * 12);
        }
        HiddenBarrel y = Check.with("places 8;lane 0 1 1;lane 0 2 1;lane 0 3 1;lane 0 4 1;lane 0 5 1;lane 0 6 1;lane 0 7 1;chance 6 99;chance 7 99;");
        Check.due("the greatest", y.right(0, 12, 128), 2 * 99 * 12);
        Check.due("the greatest, by a box that lies", y.right(0, 0, 127), 2 * 99 * 12);
    }

    private static void boxNumbers() {
        String text = "places 2;lane 0 1 1;chance 0 5;chance 1 7;";
        Edges.refused("box", text, -1, (x, h) -> x.box(0, h), Edges.outside(0, 12));
        HiddenBarrel x = Check.with(text);
        for (int h = 0; h <= 12; h++) {
            int in = Math.max(5 * h, 7 * (12 - h));
            int not = Math.max(5 * (12 - h), 7 * h);
            Check.due("box " + h, x.box(0, h), in + not > 84 ? 1 : 0);
        }
    }

    /** Of several the least (bits): none, if no set tells more. */
    private static void boxLeast() {
        for (int a = 0; a < 8; a++) {
            HiddenBarrel x = Check.with(cellars(0, "chance " + a + " 9;"));
            for (int h = 0; h <= 12; h++) {
                Check.due("box of one cellar", x.box(0, h), 0);
            }
        }
        HiddenBarrel x = Check.with(cellars(8, ""));
        Check.due("of all the least", x.box(0, 12), 1);
        Check.due("of a box that lies", x.box(0, 0), 1);
        Check.due("of a box that tells nothing", x.box(0, 6), 0);
        HiddenBarrel y = Check.with(cellars(0, "chance 7 2;chance 6 2;"));
        Check.due("the last but one", y.box(0, 12), 64);
    }

    // ---- promises 37, 38 ----

    /** How many; NONE: there are 7. */
    private static void diaryFull() {
        for (int full = 0; full < 3; full++) {
            HiddenBarrel x = Edges.towns(3);
            for (int d = 2; d <= 7; d++) {
                Check.due("day " + d, x.diary(full, d % 4), d);
            }
            int t = full;
            Edges.refused("eighth day", x, -1, (y, a) -> y.diary(t, a), 0, 1, 2, 3);
            Check.due("seven days", x.about(full, 7), 7);
            Check.due("another's second day", x.diary((full + 1) % 3, 0), 2);
            Check.due("forget", x.forget(full), true);
            for (int d = 1; d <= 7; d++) {
                Check.due("day " + d + " again", x.diary(full, 0), d);
            }
            Check.due("eighth day again", x.diary(full, 0), -1);
        }
    }

    /** NONE: there is none such PLACE. */
    private static void diaryNone() {
        for (int places = 2; places <= 8; places++) {
            StringBuilder s = new StringBuilder("places " + places + ";chance 0 1;");
            for (int a = 1; a < places; a++) {
                s.append("lane 0 ").append(a).append(" 1;");
            }
            Edges.refused("diary", s.toString(), -1, (x, a) -> x.diary(0, a), Edges.outside(0, places - 1));
            HiddenBarrel x = Check.with(s.toString());
            for (int a = places - 1; a >= 0 && places - a <= 7; a--) {
                Check.due("diary at " + a, x.diary(0, a), places - a);
            }
        }
    }

    /** Whether it was not empty. */
    private static void forgetTells() {
        for (int days = 0; days <= 7; days++) {
            HiddenBarrel x = Check.with(MOVED);
            x.walk(0);
            for (int d = 0; d < days; d++) {
                x.diary(0, d % 3);
            }
            Check.due("forget " + days, x.forget(0), days > 0);
            Check.due("forget nothing", x.forget(0), false);
            Check.due("no days", x.about(0, 7), 0);
            Check.due("as at first", x.likely(0, 0, 0), 2);
            Check.due("as at first, below", x.likely(0, 0, 1), 3);
            Check.due("next as at first", x.next(0), 0);
            Check.due("walks stay", x.about(0, 6), 1);
            Check.due("a first day", x.diary(0, 0), 1);
            Check.due("behind it", x.likely(0, 0, 1), 2);
        }
    }

    // ---- promises 39, 40 ----

    /** CHANCES at first, in least terms; 0 / 1 where there is none. */
    private static void likelyFirst() {
        HiddenBarrel x = Check.with("places 4;lane 0 1 1;lane 0 2 1;lane 0 3 1;chance 0 6;chance 1 10;chance 2 14;");
        long[] above = {1, 1, 7, 0};
        long[] below = {5, 3, 15, 1};
        for (int a = 0; a < 4; a++) {
            Check.due("above at " + a, x.likely(0, a, 0), above[a]);
            Check.due("below at " + a, x.likely(0, a, 1), below[a]);
        }
        HiddenBarrel sure = Check.with("places 2;lane 0 1 1;chance 1 99;");
        Check.due("surely", sure.likely(0, 1, 0), 1);
        Check.due("1 / 1", sure.likely(0, 1, 1), 1);
    }

    /** 0 / 1 everywhere, if it can't be, by what was looked at; from then on, too. */
    private static void likelyCannotBe() {
        HiddenBarrel x = Check.with("places 3;lane 0 1 1;lane 0 2 1;chance 1 9;chance 2 9;");
        x.diary(0, 1);
        Check.due("it is at 2 yet", x.likely(0, 2, 0), 1);
        for (int day = 2; day <= 7; day++) {
            x.diary(0, day == 2 ? 2 : 0);
            for (int a = 0; a < 3; a++) {
                Check.due("above at " + a, x.likely(0, a, 0), 0);
                Check.due("below at " + a, x.likely(0, a, 1), 1);
            }
            Check.due("nowhere", x.next(0), -1);
        }
        x.forget(0);
        Check.due("it can be again", x.likely(0, 1, 1), 2);
        Check.due("and be found", x.next(0), 1);
    }

    /** NONE: there is none such PLACE, or for another what; if it can't be, too. */
    private static void likelyNone() {
        for (int days = 0; days < 2; days++) {
            for (int what = 0; what < 2; what++) {
                int w = what;
                HiddenBarrel x = Check.with("places 2;lane 0 1 1;chance 1 9;");
                for (int d = 0; d < days; d++) {
                    x.diary(0, 1);
                }
                Edges.refused("likely " + what, x, -1, (y, a) -> y.likely(0, a, w), Edges.outside(0, 1));
            }
            int n = days;
            Edges.whats("likely behind " + days, () -> {
                HiddenBarrel x = Check.with("places 2;lane 0 1 1;chance 1 9;");
                for (int d = 0; d < n; d++) {
                    x.diary(0, 1);
                }
                return x;
            }, -1, (x, what) -> x.likely(0, 1, what), 1 - days, 1);
        }
    }

    /** Seven days of the greatest chances, in long numbers. */
    private static void likelyGreatest() {
        for (int dog = 1; dog <= 12; dog++) {
            StringBuilder s = new StringBuilder(cellars(0, "move 1;"));
            for (int a = 0; a < 8; a++) {
                s.append("chance ").append(a).append(" ").append(92 + a).append(";");
            }
            s.append("dog 3 ").append(dog).append(";dog 7 1;");
            HiddenBarrel x = Check.with(s.toString());
            Slow t = new SlowText(s.toString()).town;
            List<Integer> days = new ArrayList<>();
            for (int d = 1; d <= 7; d++) {
                int place = d % 2 == 0 ? 7 : d % 3 == 0 ? 0 : 3;
                x.diary(0, place);
                days.add(place);
                BigInteger[] v = t.behind(days);
                BigInteger sum = BigInteger.ZERO;
                for (BigInteger i : v) {
                    sum = sum.add(i);
                }
                int next = 0;
                for (int a = 0; a < 8; a++) {
                    BigInteger g = v[a].gcd(sum);
                    Check.due("above at " + a, x.likely(0, a, 0), v[a].divide(g).longValueExact());
                    Check.due("below at " + a, x.likely(0, a, 1), sum.divide(g).longValueExact());
                    if (v[a].multiply(Slow.big(t.dog[a])).compareTo(v[next].multiply(Slow.big(t.dog[next]))) > 0) {
                        next = a;
                    }
                }
                Check.due("next", x.next(0), next);
            }
        }
    }

    /** NONE: it can't be found anywhere. */
    private static void nextNone() {
        for (int a = 0; a < 8; a++) {
            HiddenBarrel x = Check.with(cellars(0, "chance " + a + " 1;dog " + (a == 0 ? 1 : 0) + " 1;"));
            Check.due("at the one cellar", x.next(0), a);
            for (int d = 0; d < 7; d++) {
                x.diary(0, a);
                Check.due("nowhere", x.next(0), -1);
            }
        }
        HiddenBarrel faint = Check.with("places 2;lane 0 1 1;chance 1 1;dog 1 11;");
        for (int d = 0; d < 7; d++) {
            faint.diary(0, 1);
            Check.due("still somewhere", faint.next(0), 1);
        }
    }

    /** Of several the least. */
    private static void nextLeast() {
        HiddenBarrel x = Check.with("places 4;lane 0 1 1;lane 0 2 1;lane 0 3 1;chance 1 2;chance 2 3;chance 3 4;dog 2 8;dog 3 6;");
        Check.due("of three", x.next(0), 1);
        x.diary(0, 1);
        Check.due("of two", x.next(0), 2);
        x.diary(0, 2);
        Check.due("of one", x.next(0), 3);
    }
}
