import java.util.ArrayList;
import java.util.List;

/** Towns that are drawn, each held against Slow by every call that tells of a town; texts likewise. */
public final class AgainstSlowTest {
    private static HiddenBarrel x;
    private static Slow t;
    private static String head;

    private AgainstSlowTest() {
    }

    public static void main(String[] args) {
        int times = args.length > 0 ? Integer.parseInt(args[0]) : 60;
        Towns drawn = new Towns(args.length > 1 ? Long.parseLong(args[1]) : 1);
        for (int i = 0; i < times * 50; i++) {
            text(drawn.text());
        }
        for (int i = 0; i < times; i++) {
            t = drawn.town(2, 8, 1 + drawn.below(i % 6 == 0 ? 7 : 4));
            fresh();
            judge(drawn, i % 10 == 0);
        }
        Check.close("AgainstSlowTest");
    }

    private static void due(String call, long got, long want) {
        Check.due(head + call, got, want);
    }

    private static void text(String text) {
        SlowText slow = new SlowText(text);
        HiddenBarrel y = new HiddenBarrel();
        String of = " of '" + text + "'";
        Check.due("town" + of, Check.town(y, text), slow.fault == 0 ? 0 : -1);
        Check.due("fault(0)" + of, y.fault(0), slow.fault);
        Check.due("fault(1)" + of, y.fault(1), slow.place);
        if (slow.fault == 0) {
            x = y;
            t = slow.town;
            head = "in '" + text + "' ";
            told();
        }
    }

    private static void fresh() {
        x = new HiddenBarrel();
        head = "in '" + t.text() + "' ";
        due("town", Check.town(x, t.text()), 0);
    }

    private static void judge(Towns drawn, boolean long5) {
        told();
        ways();
        fresh();
        bestRows(drawn);
        chances(drawn);
        fresh();
        trees();
        looks();
        fresh();
        nights(long5 ? 5 : 3);
        diary(drawn);
        fresh();
        bell(drawn);
        box(drawn);
        walks(drawn);
        fresh();
        search(drawn);
    }

    private static void told() {
        due("about 0", x.about(0, 0), t.places);
        due("about 1", x.about(0, 1), t.lanes());
        due("about 2", x.about(0, 2), t.all());
        due("about 3", x.about(0, 3), t.cellarBits());
        due("about 4", x.about(0, 4), t.prize);
        due("about 5", x.about(0, 5), t.move);
        for (int a = 0; a < 10; a++) {
            due("about 10 + " + a, x.about(0, 10 + a), a < t.places ? t.chance[a] : -1);
            due("about 20 + " + a, x.about(0, 20 + a), a < t.places ? t.dog[a] : -1);
            due("about 30 + " + a, x.about(0, 30 + a), a < t.places ? t.dig[a] : -1);
        }
    }

    private static void ways() {
        for (int a = 0; a < t.places; a++) {
            for (int b = 0; b < t.places; b++) {
                due("lane " + a + " " + b, x.lane(0, a, b), t.lane[a][b] > 0 ? t.lane[a][b] : -1);
                due("way " + a + " " + b, x.way(0, a, b), t.way(a, b));
            }
        }
    }

    private static void row(String call, int[] got, int[] want) {
        for (int k = 0; k < got.length; k++) {
            due(call + " stop " + k, got[k], k < want.length ? want[k] : -1);
        }
    }

    private static void bestRows(Towns drawn) {
        t.best(t.ways(), t.cellarsAway());
        due("best", x.best(0, 0), t.bestMean);
        int[] got = new int[9];
        for (int k = 0; k < 9; k++) {
            got[k] = x.best(0, 1 + k);
        }
        row("best", got, t.bestRow);
        t.two();
        due("two", x.two(0, 0), t.twoMean);
        due("two's first", x.two(0, 1), t.twoSet);
        due("two's second", x.two(0, 2), (t.cellarBits() & ~1) - t.twoSet);
        for (int both = 0; both < 2; both++) {
            boolean none = Integer.bitCount(t.cellarBits()) < 2;
            t.barrels(both == 1);
            due("barrels " + both, x.barrels(0, both == 1, 0), none ? -1 : t.bestMean);
            for (int k = 0; k < 9; k++) {
                got[k] = x.barrels(0, both == 1, 1 + k);
            }
            row("barrels " + both, got, none ? new int[0] : t.bestRow);
        }
        int minutes = 1 + drawn.below(drawn.below(2) == 0 ? 3 : 20);
        int[] more = t.more(minutes);
        for (int what = 0; what < 3; what++) {
            due("more " + minutes + " " + what, x.more(0, minutes, what), more == null ? -1 : more[what]);
        }
    }

    private static void chances(Towns drawn) {
        Slow.Kernel kernel = t.kernel(t.ways(), t.cellarsAway());
        due("both 0", x.both(0, 0), kernel == null ? Slow.UNTOLD : kernel.d);
        due("both 1", x.both(0, 1), kernel == null ? Slow.UNTOLD : kernel.s);
        due("both 2", x.both(0, 2), kernel == null ? Slow.UNTOLD : kernel.k);
        for (int a = 0; a < 9; a++) {
            due("both 10 + " + a, x.both(0, 10 + a), kernel == null || a >= t.places ? Slow.UNTOLD : kernel.c[a]);
        }
        for (int k = 0; k < 5; k++) {
            boolean some = kernel != null && k < kernel.k;
            due("goes " + k + " 0", x.goes(0, k, 0), some ? kernel.rows.get(k) : Slow.UNTOLD);
            due("goes " + k + " 1", x.goes(0, k, 1), some ? kernel.r.get(k) : Slow.UNTOLD);
        }
        long[] guard = t.guard();
        for (int what = 0; what < 3; what++) {
            due("guard " + what, x.guard(0, what), guard == null ? Slow.UNTOLD : guard[what]);
        }
        int minutes = 1 + drawn.below(drawn.below(2) == 0 ? 3 : 20);
        long[] open = t.open(minutes);
        for (int what = 0; what < 4; what++) {
            due("open " + minutes + " " + what, x.open(0, minutes, what), open == null ? Slow.UNTOLD : open[what]);
        }
    }

    private static void trees() {
        Check.due(head + "tree", x.tree(0), t.tree());
        long[][] density = t.tree() ? t.density() : null;
        int[] rounds = t.tree() ? t.rounds() : null;
        due("worth", x.worth(0), t.tree() ? t.allMinutes() : -1);
        for (int a = 0; a < t.places; a++) {
            due("density 0 of " + a, x.density(0, a, 0), t.tree() ? density[a][0] : -1);
            due("density 1 of " + a, x.density(0, a, 1), t.tree() ? density[a][1] : -1);
            due("round of " + a, x.round(0, a), t.tree() ? rounds[a] : -1);
        }
        due("postman", x.postman(0, 0), t.postman());
        for (int a = 0; a < t.places; a++) {
            due("fellow of " + a, x.postman(0, 10 + a), t.fellow[a]);
        }
    }

    private static void looks() {
        List<Integer> order = t.order();
        for (int n = 0; n <= 65; n++) {
            due("look " + n, x.look(0, n), n < order.size() ? order.get(n) : -1);
            due("left " + n, x.left(0, n), n > 64 ? -1 : t.left(order, n));
            due("gain " + n, x.gain(0, n), n > 64 ? Check.NO_GAIN : t.gain(order, n));
        }
        due("leave", x.leave(0), t.leave(order));
    }

    private static void nights(int most) {
        for (int days = 1; days <= most; days++) {
            t.chase(days);
            due("caught " + days, x.caught(0, days), t.chaseFound);
            for (int k = 0; k < days; k++) {
                due("chase " + days + " " + k, x.chase(0, days, k), t.chaseRow[k]);
            }
        }
    }

    private static void diary(Towns drawn) {
        List<Integer> days = new ArrayList<>();
        for (int d = 0; d <= 7; d++) {
            java.math.BigInteger[] v = t.behind(days);
            java.math.BigInteger sum = java.math.BigInteger.ZERO;
            int next = -1;
            for (int a = 0; a < t.places; a++) {
                sum = sum.add(v[a]);
                java.math.BigInteger smell = v[a].multiply(Slow.big(t.dog[a]));
                if (smell.signum() > 0 && (next < 0 || smell.compareTo(v[next].multiply(Slow.big(t.dog[next]))) > 0)) {
                    next = a;
                }
            }
            for (int a = 0; a < t.places; a++) {
                java.math.BigInteger g = v[a].gcd(sum);
                boolean none = sum.signum() == 0;
                due("likely 0 of " + a + " behind " + days, x.likely(0, a, 0), none ? 0 : v[a].divide(g).longValueExact());
                due("likely 1 of " + a + " behind " + days, x.likely(0, a, 1), none ? 1 : sum.divide(g).longValueExact());
            }
            due("next behind " + days, x.next(0), next);
            int place = drawn.below(t.places);
            due("diary", x.diary(0, place), d < 7 ? d + 1 : -1);
            days.add(place);
        }
    }

    private static void bell(Towns drawn) {
        int minutes = drawn.below(drawn.below(2) == 0 ? 30 : 300);
        t.bell(minutes);
        due("bell 0 at " + minutes, x.bell(0, minutes, 0), t.bellSmell);
        due("bell 1 at " + minutes, x.bell(0, minutes, 1), t.bellMinutes);
        due("bell 2 at " + minutes, x.bell(0, minutes, 2), t.bellSet);
        int[] got = new int[9];
        for (int k = 0; k < 9; k++) {
            got[k] = x.bell(0, minutes, 3 + k);
        }
        row("bell at " + minutes, got, t.bellRow);
    }

    private static void box(Towns drawn) {
        for (int h = 0; h <= 12; h++) {
            due("box " + h, x.box(0, h), t.box(h));
            int set = drawn.below(1 << t.places);
            due("right " + h + " " + set, x.right(0, h, set), t.right(h, set));
        }
    }

    private static void walks(Towns drawn) {
        int[][] w = t.ways();
        int walks = 1 + drawn.below(4);
        long[] far = new long[t.places];
        int weights = 0;
        for (int i = 0; i < walks; i++) {
            due("walk", x.walk(0), i);
            int[] stops = new int[drawn.below(drawn.below(4) == 0 ? 17 : 9)];
            for (int k = 0; k < stops.length; k++) {
                stops[k] = drawn.below(t.places);
                due("stop", x.stop(0, i, stops[k]), k + 1);
            }
            int weight = drawn.below(3) == 0 ? 1 : drawn.below(100);
            if (weight != 1) {
                due("weigh", x.weigh(0, i, weight) ? 1 : 0, 1);
            }
            weights += weight;
            for (int a = 0; a < t.places; a++) {
                int found = Slow.found(w, stops, a);
                due("found " + i + " " + a, x.found(0, i, a), found);
                far[a] += weight * (found < 0 ? 999 : found);
            }
            due("mean " + i, x.mean(0, i), t.mean(w, stops));
        }
        int best = -1;
        for (int a = 0; a < t.places && weights > 0; a++) {
            if (t.chance[a] > 0 && (best < 0 || far[a] > far[best])) {
                best = a;
            }
        }
        due("where 0", x.where(0, 0), best);
        due("where 1", x.where(0, 1), best < 0 ? -1 : far[best]);
    }

    private static void search(Towns drawn) {
        for (int i = 0; i < 40; i++) {
            int looks = drawn.below(3) == 0 ? 64 : drawn.below(20);
            int seed = drawn.below(1 << 30) * (drawn.below(2) == 0 ? 3 : -1);
            int[] ran = t.search(looks, seed);
            due("run " + looks + " " + seed, x.run(0, looks, seed), ran[1]);
            for (int what = 0; what < 4; what++) {
                due("ran " + what + " of " + looks + " " + seed, x.ran(what), ran[what]);
            }
        }
    }
}
