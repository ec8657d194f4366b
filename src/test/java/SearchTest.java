/** Promises 41 to 43: run, ran, count. */
public final class SearchTest {
    private static final String TOWN = "places 3;lane 0 1 2;lane 0 2 2;chance 0 6;chance 1 3;dog 0 6;dig 0 2;prize 20;move 3;";

    private SearchTest() {
    }

    public static void main(String[] args) {
        sure();
        seeds();
        wrong();
        where();
        count();
        Check.close("SearchTest");
    }

    private static void sure() {
        HiddenBarrel x = Check.with("places 2;lane 0 1 1;chance 1 1;dig 1 9;");
        Check.due("no looks", x.run(0, 0, 5), 0);
        int[] none = {1, 0, 0, 0, -1};
        for (int what = 0; what < 5; what++) {
            Check.due("ran " + what + " without looks", x.ran(what), none[what]);
        }
        Check.due("three looks", x.run(0, 3, 5), 1);
        int[] first = {1, 1, 9, 0, -1};
        for (int what = 0; what < 5; what++) {
            Check.due("ran " + what, x.ran(what), first[what]);
        }
        Check.due("ran -1", x.ran(-1), -1);
        Check.due("ran MIN", x.ran(Integer.MIN_VALUE), -1);
        Check.due("ran MAX", x.ran(Integer.MAX_VALUE), -1);
    }

    /** Each number by hand: x * 1103515245 + 12345 in 32 bits, then 15 bits from bit 16 on. */
    private static void seeds() {
        HiddenBarrel x = Check.with(TOWN);
        Slow t = new SlowText(TOWN).town;
        int[] seeds = {0, 1, 2, 3, 4, 5, 6, 7, 8, 9, 10, 11, 12, 13, 14, 15, -1, -2, -3, -77777, 1 << 30,
            Integer.MAX_VALUE, Integer.MIN_VALUE, 123456789, -987654321};
        int[] most = {64, 16, 3, 1};
        for (int seed : seeds) {
            for (int looks : most) {
                int[] want = t.search(looks, seed);
                Check.due("run " + looks + " " + seed, x.run(0, looks, seed), want[1]);
                for (int what = 0; what < 4; what++) {
                    Check.due("ran " + what + " of " + looks + " " + seed, x.ran(what), want[what]);
                }
            }
            if (x.count(1) > 80) {
                x = Check.with(TOWN);
            }
        }
        HiddenBarrel y = Check.with("places 2;lane 0 1 1;chance 0 1;dog 0 1;");
        int number = 0;
        int s = 42;
        s = s * 1103515245 + 12345;
        int found = 0;
        for (int look = 1; look <= 8 && found == 0; look++) {
            s = s * 1103515245 + 12345;
            number = s >>> 16 & 0x7fff;
            found = number % 12 < 1 ? look : 0;
        }
        Check.due("a bad dog", y.run(0, 64, 42), found);
        Check.due("at most 8 looks", y.ran(2), found == 0 ? 8 : found);
        Check.due("that found nothing", y.ran(3), found == 0 ? 8 : found - 1);
    }

    private static void wrong() {
        HiddenBarrel x = Check.with(TOWN);
        Check.due("run of town 1", x.run(1, 5, 5), -1);
        Check.due("run of town -1", x.run(-1, 5, 5), -1);
        Check.due("none was run", x.ran(0), -1);
        x.run(0, 64, 7);
        int[] ran = {x.ran(0), x.ran(1), x.ran(2), x.ran(3)};
        Check.due("65 looks", x.run(0, 65, 5), -1);
        Check.due("-1 looks", x.run(0, -1, 5), -1);
        Check.due("MIN looks", x.run(0, Integer.MIN_VALUE, 5), -1);
        Check.due("run of town 2", x.run(2, 5, 6), -1);
        for (int what = 0; what < 4; what++) {
            Check.due("it stays, ran " + what, x.ran(what), ran[what]);
        }
        Check.due("one was run", x.count(1), 1);
    }

    /** Each cellar by as many numbers as it has chances. */
    private static void where() {
        String text = "places 4;lane 0 1 1;lane 1 2 1;lane 2 3 1;chance 1 1;chance 3 2;";
        HiddenBarrel x = Check.with(text);
        int[] times = new int[4];
        for (int seed = 0; seed < 200; seed++) {
            x = seed % 100 == 0 ? Check.with(text) : x;
            int s = seed * 1103515245 + 12345;
            x.run(0, 0, seed);
            Check.due("where by " + seed, x.ran(0), (s >>> 16 & 0x7fff) % 3 < 1 ? 1 : 3);
            times[x.ran(0)]++;
        }
        Check.due("at 0 and 2 never", times[0] + times[2], 0);
        Check.due("at 1 and 3", times[1] > 30 && times[3] > 80, true);
    }

    private static void count() {
        HiddenBarrel x = new HiddenBarrel();
        Check.due("no towns", x.count(0), 0);
        Check.town(x, TOWN);
        Check.town(x, TOWN);
        Check.townAt(x, 0, TOWN);
        Check.due("towns", x.count(0), 2);
        Check.due("no searches", x.count(1), 0);
        for (int i = 1; i <= 20; i++) {
            x.run(i % 2, i, i);
            Check.due("searches", x.count(1), i);
        }
        Check.due("towns as before", x.count(0), 2);
        Check.due("count 2", x.count(2), -2);
        Check.due("count -1", x.count(-1), -2);
        Check.due("count MIN", x.count(Integer.MIN_VALUE), -2);
        Check.due("count MAX", x.count(Integer.MAX_VALUE), -2);
        Check.townAt(x, 0, "places 2;lane 0 1 1;chance 1 1;");
        Check.due("a search stays without its town", x.count(1), 20);
    }
}
