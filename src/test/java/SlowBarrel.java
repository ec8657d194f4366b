import java.math.BigInteger;
import java.util.ArrayList;
import java.util.HashMap;
import java.util.List;
import java.util.Map;
import java.util.function.Supplier;

/**
 * The whole face, done slowly: what each call answers and changes, in the words of its promise, by
 * Slow and SlowText. It shares nothing with the class.
 */
public final class SlowBarrel {
    /** A town with what is told of it. */
    private static final class Told {
        final String text;
        final Slow town;
        final List<List<Integer>> walks = new ArrayList<>();
        final List<Integer> weights = new ArrayList<>();
        final List<Integer> diary = new ArrayList<>();

        Told(String text, Slow town) {
            this.text = text;
            this.town = town;
        }

        Told copy() {
            Told t = new Told(text, town);
            for (List<Integer> walk : walks) {
                t.walks.add(new ArrayList<>(walk));
            }
            t.weights.addAll(weights);
            t.diary.addAll(diary);
            return t;
        }

        boolean has(int place) {
            return place >= 0 && place < town.places;
        }

        boolean hasWalk(int walk) {
            return walk >= 0 && walk < walks.size();
        }

        int[] stops(int walk) {
            return walks.get(walk).stream().mapToInt(i -> i).toArray();
        }
    }

    /** All that an image keeps. */
    private static final class State {
        StringBuilder tape = new StringBuilder();
        List<Told> towns = new ArrayList<>();
        int fault;
        int place = -1;
        int searches;
        int[] search;

        State copy() {
            State s = new State();
            s.tape.append(tape);
            for (Told t : towns) {
                s.towns.add(t.copy());
            }
            s.fault = fault;
            s.place = place;
            s.searches = searches;
            s.search = search;
            return s;
        }
    }

    /** What was worked out for a text, so that the same is not worked out for each call. */
    private static final Map<String, Object> KNOWN = new HashMap<>();

    private State now = new State();
    private final State[] images = new State[3];

    public SlowBarrel() {
    }

    @SuppressWarnings("unchecked")
    private static <T> T known(String key, Supplier<T> made) {
        if (!KNOWN.containsKey(key)) {
            KNOWN.put(key, made.get());
        }
        return (T) KNOWN.get(key);
    }

    private Told at(int town) {
        return town >= 0 && town < now.towns.size() ? now.towns.get(town) : null;
    }

    // ---- the tape, towns ----

    public int feed(int a, int b, int c, int d, int e) {
        if (now.tape.length() + 20 > 500) {
            return -1;
        }
        int[] numbers = {a, b, c, d, e};
        for (int n : numbers) {
            for (int i = 3; i >= 0; i--) {
                now.tape.append((char) (n >>> 8 * i & 255));
            }
        }
        return now.tape.length();
    }

    public int end(int n) {
        if (n < 0 || n > now.tape.length()) {
            return -1;
        }
        now.tape.setLength(n);
        return n;
    }

    public int town(int at) {
        String text = now.tape.toString();
        now.tape.setLength(0);
        now.fault = 0;
        now.place = -1;
        if (at == -1 ? now.towns.size() == 3 : at(at) == null) {
            return -2;
        }
        SlowText read = new SlowText(text);
        if (read.fault != 0) {
            now.fault = read.fault;
            now.place = read.place;
            return -1;
        }
        Told told = new Told(read.town.text(), read.town);
        if (at == -1) {
            now.towns.add(told);
            return now.towns.size() - 1;
        }
        now.towns.set(at, told);
        return at;
    }

    public int fault(int what) {
        return what == 0 ? now.fault : what == 1 ? now.place : -1;
    }

    public int about(int town, int what) {
        Told t = at(town);
        if (t == null || what < 0) {
            return -1;
        }
        if (what < 8) {
            int[] all = {t.town.places, t.town.lanes(), t.town.all(), t.town.cellarBits(), t.town.prize, t.town.move,
                t.walks.size(), t.diary.size()};
            return all[what];
        }
        int a = what % 10;
        if (what < 10 || what >= 40 || !t.has(a)) {
            return -1;
        }
        return what < 20 ? t.town.chance[a] : what < 30 ? t.town.dog[a] : t.town.dig[a];
    }

    public int lane(int town, int a, int b) {
        Told t = at(town);
        return t == null || !t.has(a) || !t.has(b) || t.town.lane[a][b] == 0 ? -1 : t.town.lane[a][b];
    }

    public int way(int town, int a, int b) {
        Told t = at(town);
        return t == null || !t.has(a) || !t.has(b) ? -1 : t.town.way(a, b);
    }

    // ---- walks ----

    public int walk(int town) {
        Told t = at(town);
        if (t == null || t.walks.size() == 8) {
            return -1;
        }
        t.walks.add(new ArrayList<>());
        t.weights.add(1);
        return t.walks.size() - 1;
    }

    public int stop(int town, int walk, int place) {
        Told t = at(town);
        if (t == null || !t.hasWalk(walk) || !t.has(place) || t.walks.get(walk).size() == 16) {
            return -1;
        }
        t.walks.get(walk).add(place);
        return t.walks.get(walk).size();
    }

    public boolean weigh(int town, int walk, int weight) {
        Told t = at(town);
        if (t == null || !t.hasWalk(walk) || weight < 0 || weight > 99) {
            return false;
        }
        t.weights.set(walk, weight);
        return true;
    }

    public int found(int town, int walk, int place) {
        Told t = at(town);
        return t == null || !t.hasWalk(walk) || !t.has(place) ? -1 : Slow.found(t.town.ways(), t.stops(walk), place);
    }

    public int mean(int town, int walk) {
        Told t = at(town);
        return t == null || !t.hasWalk(walk) ? -1 : t.town.mean(t.town.ways(), t.stops(walk));
    }

    public int where(int town, int what) {
        Told t = at(town);
        if (t == null || what < 0 || what > 1 || t.weights.stream().allMatch(w -> w == 0)) {
            return -1;
        }
        int best = -1;
        int most = -1;
        for (int a = 0; a < t.town.places; a++) {
            int sum = 0;
            for (int w = 0; w < t.walks.size(); w++) {
                int found = Slow.found(t.town.ways(), t.stops(w), a);
                sum += t.weights.get(w) * (found < 0 ? 999 : found);
            }
            if (t.town.chance[a] > 0 && sum > most) {
                most = sum;
                best = a;
            }
        }
        return what == 0 ? best : most;
    }

    // ---- the best rows ----

    private static int stopOf(int[] row, int k) {
        return k >= 0 && k < row.length ? row[k] : -1;
    }

    private static int[] headed(int first, int[] row) {
        int[] out = new int[row.length + 1];
        out[0] = first;
        System.arraycopy(row, 0, out, 1, row.length);
        return out;
    }

    public int best(int town, int what) {
        Told t = at(town);
        if (t == null) {
            return -1;
        }
        return stopOf(known("best " + t.text, () -> {
            t.town.best(t.town.ways(), t.town.cellarsAway());
            return headed(t.town.bestMean, t.town.bestRow);
        }), what);
    }

    public int two(int town, int what) {
        Told t = at(town);
        if (t == null) {
            return -1;
        }
        return stopOf(known("two " + t.text, () -> {
            t.town.two();
            return new int[] {t.town.twoMean, t.town.twoSet, (t.town.cellarBits() & ~1) - t.town.twoSet};
        }), what);
    }

    public int barrels(int town, boolean both, int what) {
        Told t = at(town);
        if (t == null || Integer.bitCount(t.town.cellarBits()) == 1) {
            return -1;
        }
        return stopOf(known("barrels " + both + t.text, () -> {
            t.town.barrels(both);
            return headed(t.town.bestMean, t.town.bestRow);
        }), what);
    }

    public int more(int town, int minutes, int what) {
        Told t = at(town);
        if (t == null || minutes < 1 || minutes > 20) {
            return -1;
        }
        int[] more = known("more " + minutes + t.text, () -> t.town.more(minutes));
        return more == null ? -1 : stopOf(more, what);
    }

    public int bell(int town, int minutes, int what) {
        Told t = at(town);
        if (t == null || minutes < 0 || minutes > 999) {
            return -1;
        }
        return stopOf(known("bell " + minutes + t.text, () -> {
            t.town.bell(minutes);
            return headed(t.town.bellSmell, headed(t.town.bellMinutes, headed(t.town.bellSet, t.town.bellRow)));
        }), what);
    }

    // ---- both by chances ----

    private static Slow.Kernel kernel(Told t) {
        return t == null ? null : known("kernel " + t.text, () -> t.town.kernel(t.town.ways(), t.town.cellarsAway()));
    }

    public long both(int town, int what) {
        Told t = at(town);
        Slow.Kernel k = kernel(t);
        if (k == null || what < 0 || what > 2 && (what < 10 || !t.has(what - 10))) {
            return Slow.UNTOLD;
        }
        return what == 0 ? k.d : what == 1 ? k.s : what == 2 ? k.k : k.c[what - 10];
    }

    public long goes(int town, int k, int what) {
        Slow.Kernel kernel = kernel(at(town));
        if (kernel == null || k < 0 || k >= kernel.k || what < 0 || what > 1) {
            return Slow.UNTOLD;
        }
        return what == 0 ? kernel.rows.get(k) : kernel.r.get(k);
    }

    public long guard(int town, int what) {
        Told t = at(town);
        long[] guard = t == null ? null : known("guard " + t.text, () -> t.town.guard());
        return guard == null || what < 0 || what > 2 ? Slow.UNTOLD : guard[what];
    }

    public long open(int town, int minutes, int what) {
        Told t = at(town);
        if (t == null || minutes < 1 || minutes > 20) {
            return Slow.UNTOLD;
        }
        long[] open = known("open " + minutes + t.text, () -> t.town.open(minutes));
        return open == null || what < 0 || what > 3 ? Slow.UNTOLD : open[what];
    }

    // ---- trees, rounds ----

    public boolean tree(int town) {
        Told t = at(town);
        return t != null && t.town.tree();
    }

    public long density(int town, int place, int what) {
        Told t = at(town);
        return t == null || !t.town.tree() || !t.has(place) || what < 0 || what > 1 ? -1 : t.town.density()[place][what];
    }

    public int worth(int town) {
        Told t = at(town);
        return t == null || !t.town.tree() ? -1 : t.town.allMinutes();
    }

    public int round(int town, int place) {
        Told t = at(town);
        return t == null || !t.town.tree() || !t.has(place) ? -1 : t.town.rounds()[place];
    }

    public int postman(int town, int what) {
        Told t = at(town);
        if (t == null || what < 0) {
            return -1;
        }
        int[] all = known("postman " + t.text, () -> headed(t.town.postman(), t.town.fellow));
        return what == 0 ? all[0] : what < 10 || !t.has(what - 10) ? -1 : all[what - 9] < 0 ? -1 : all[what - 9];
    }

    // ---- looks, nights ----

    public int look(int town, int n) {
        Told t = at(town);
        if (t == null) {
            return -1;
        }
        List<Integer> order = t.town.order();
        return n >= 0 && n < order.size() ? order.get(n) : -1;
    }

    public long left(int town, int n) {
        Told t = at(town);
        return t == null || n < 0 || n > 64 ? -1 : t.town.left(t.town.order(), n);
    }

    public long gain(int town, int n) {
        Told t = at(town);
        return t == null || n < 0 || n > 64 ? Check.NO_GAIN : t.town.gain(t.town.order(), n);
    }

    public int leave(int town) {
        Told t = at(town);
        return t == null ? -1 : known("leave " + t.text, () -> t.town.leave(t.town.order()));
    }

    private static long[] nights(Told t, int days) {
        return known("chase " + days + t.text, () -> {
            t.town.chase(days);
            long[] out = new long[days + 1];
            out[days] = t.town.chaseFound;
            for (int d = 0; d < days; d++) {
                out[d] = t.town.chaseRow[d];
            }
            return out;
        });
    }

    public int chase(int town, int days, int what) {
        Told t = at(town);
        return t == null || days < 1 || days > 5 || what < 0 || what >= days ? -1 : (int) nights(t, days)[what];
    }

    public long caught(int town, int days) {
        Told t = at(town);
        return t == null || days < 1 || days > 5 ? -1 : nights(t, days)[days];
    }

    public int diary(int town, int place) {
        Told t = at(town);
        if (t == null || !t.has(place) || t.diary.size() == 7) {
            return -1;
        }
        t.diary.add(place);
        return t.diary.size();
    }

    public boolean forget(int town) {
        Told t = at(town);
        boolean some = t != null && !t.diary.isEmpty();
        if (some) {
            t.diary.clear();
        }
        return some;
    }

    public long likely(int town, int place, int what) {
        Told t = at(town);
        if (t == null || !t.has(place) || what < 0 || what > 1) {
            return -1;
        }
        BigInteger[] v = t.town.behind(t.diary);
        BigInteger sum = BigInteger.ZERO;
        for (BigInteger i : v) {
            sum = sum.add(i);
        }
        if (sum.signum() == 0) {
            return what;
        }
        return (what == 0 ? v[place] : sum).divide(v[place].gcd(sum)).longValueExact();
    }

    public int next(int town) {
        Told t = at(town);
        int best = -1;
        BigInteger most = BigInteger.ZERO;
        for (int a = 0; t != null && a < t.town.places; a++) {
            BigInteger smell = t.town.behind(t.diary)[a].multiply(Slow.big(t.town.dog[a]));
            if (smell.compareTo(most) > 0) {
                most = smell;
                best = a;
            }
        }
        return best;
    }

    // ---- box, search, images ----

    public int right(int town, int h, int set) {
        Told t = at(town);
        return t == null || h < 0 || h > 12 || set < 0 || set >= 1 << t.town.places ? -1 : t.town.right(h, set);
    }

    public int box(int town, int h) {
        Told t = at(town);
        return t == null || h < 0 || h > 12 ? -1 : t.town.box(h);
    }

    public int run(int town, int looks, int seed) {
        Told t = at(town);
        if (t == null || looks < 0 || looks > 64) {
            return -1;
        }
        now.search = t.town.search(looks, seed);
        now.searches++;
        return now.search[1];
    }

    public int ran(int what) {
        return now.search == null || what < 0 || what > 3 ? -1 : now.search[what];
    }

    public int count(int what) {
        return what == 0 ? now.towns.size() : what == 1 ? now.searches : -2;
    }

    public boolean image(int k) {
        if (k < 0 || k > 2) {
            return false;
        }
        images[k] = now.copy();
        return true;
    }

    public boolean again(int k) {
        if (k < 0 || k > 2 || images[k] == null) {
            return false;
        }
        now = images[k].copy();
        return true;
    }
}
