import java.util.ArrayList;
import java.util.List;
import java.util.function.Supplier;

/** What the tests of edges share: numbers that are none, refused calls, and all calls that ask of a town. */
final class Edges {
    /** A tree with two cellars; every call that asks of a town has an answer for it. */
    static final String TOWN = "places 4;lane 0 1 3;lane 1 2 4;lane 1 3 5;chance 2 2;chance 3 3;prize 20;move 3;";

    /**
     * Numbers far out. Eight, 16, 64 or 256 times some of them, or some of them plus ten, or cut to
     * a byte or to five bits, wrap around to a number that can be.
     */
    private static final int[] FAR = {Integer.MIN_VALUE, Integer.MIN_VALUE + 1, Integer.MIN_VALUE + 2, Integer.MIN_VALUE + 9,
        Integer.MIN_VALUE + 10, Integer.MAX_VALUE, Integer.MAX_VALUE - 1, Integer.MAX_VALUE - 9, 1 << 30, 1 << 29,
        (1 << 29) + 1, 1 << 28, (1 << 28) + 1, -(1 << 28), 1 << 26, 1 << 24, (1 << 24) + 1, 65536, 65537, 256, 257, 128,
        64, 65, 32, 33, -7, -10, -31, -32, -128, -255, -256, -65535};

    private Edges() {
    }

    /** All that a call answers for a number. */
    interface Asked {
        long of(HiddenBarrel x, int n);
    }

    /** A call that asks of a town, and what it answers if there is no such town. */
    static final class OfTown {
        final String name;
        final long none;
        final Asked call;

        OfTown(String name, long none, Asked call) {
            this.name = name;
            this.none = none;
            this.call = call;
        }
    }

    private static long bit(boolean b) {
        return b ? 1 : 0;
    }

    static final OfTown[] CALLS = {
        new OfTown("about", -1, (x, t) -> x.about(t, 0)),
        new OfTown("lane", -1, (x, t) -> x.lane(t, 0, 1)),
        new OfTown("way", -1, (x, t) -> x.way(t, 0, 1)),
        new OfTown("walk", -1, (x, t) -> x.walk(t)),
        new OfTown("stop", -1, (x, t) -> x.stop(t, 0, 1)),
        new OfTown("weigh", 0, (x, t) -> bit(x.weigh(t, 0, 1))),
        new OfTown("found", -1, (x, t) -> x.found(t, 0, 0)),
        new OfTown("mean", -1, (x, t) -> x.mean(t, 0)),
        new OfTown("best", -1, (x, t) -> x.best(t, 0)),
        new OfTown("best's stop", -1, (x, t) -> x.best(t, 1)),
        new OfTown("two", -1, (x, t) -> x.two(t, 0)),
        new OfTown("barrels till one", -1, (x, t) -> x.barrels(t, false, 0)),
        new OfTown("barrels till both", -1, (x, t) -> x.barrels(t, true, 1)),
        new OfTown("more", -1, (x, t) -> x.more(t, 1, 0)),
        new OfTown("where", -1, (x, t) -> x.where(t, 0)),
        new OfTown("both", Check.UNTOLD, (x, t) -> x.both(t, 0)),
        new OfTown("goes", Check.UNTOLD, (x, t) -> x.goes(t, 0, 0)),
        new OfTown("tree", 0, (x, t) -> bit(x.tree(t))),
        new OfTown("density", -1, (x, t) -> x.density(t, 2, 0)),
        new OfTown("worth", -1, (x, t) -> x.worth(t)),
        new OfTown("round", -1, (x, t) -> x.round(t, 1)),
        new OfTown("look", -1, (x, t) -> x.look(t, 0)),
        new OfTown("left", -1, (x, t) -> x.left(t, 0)),
        new OfTown("gain", Check.NO_GAIN, (x, t) -> x.gain(t, 0)),
        new OfTown("leave", -1, (x, t) -> x.leave(t)),
        new OfTown("chase", -1, (x, t) -> x.chase(t, 1, 0)),
        new OfTown("caught", -1, (x, t) -> x.caught(t, 1)),
        new OfTown("bell", -1, (x, t) -> x.bell(t, 9, 0)),
        new OfTown("postman", -1, (x, t) -> x.postman(t, 0)),
        new OfTown("postman's fellow", -1, (x, t) -> x.postman(t, 10)),
        new OfTown("guard", Check.UNTOLD, (x, t) -> x.guard(t, 0)),
        new OfTown("open", Check.UNTOLD, (x, t) -> x.open(t, 1, 0)),
        new OfTown("right", -1, (x, t) -> x.right(t, 12, 4)),
        new OfTown("box", -1, (x, t) -> x.box(t, 12)),
        new OfTown("diary", -1, (x, t) -> x.diary(t, 0)),
        new OfTown("likely", -1, (x, t) -> x.likely(t, 2, 0)),
        new OfTown("next", -1, (x, t) -> x.next(t)),
        new OfTown("forget", 0, (x, t) -> bit(x.forget(t))),
        new OfTown("run", -1, (x, t) -> x.run(t, 1, 1)),
    };

    /** Numbers that are not first .. last: those next to it, and those far out. */
    static int[] outside(int first, int last) {
        List<Integer> out = new ArrayList<>();
        int[] near = {first - 1, first - 2, last + 1, last + 2};
        for (int n : near) {
            out.add(n);
        }
        for (int n : FAR) {
            if (n < first || n > last) {
                out.add(n);
            }
        }
        return out.stream().mapToInt(i -> i).toArray();
    }

    /** So many towns like TOWN, each with a walk by both cellars and with a day of the diary. */
    static HiddenBarrel towns(int n) {
        HiddenBarrel x = new HiddenBarrel();
        for (int t = 0; t < n; t++) {
            Check.due("town " + t, Check.town(x, TOWN), t);
            x.walk(t);
            x.stop(t, 0, 3);
            x.stop(t, 0, 2);
            x.diary(t, 1);
        }
        return x;
    }

    /** What an object tells of all that a call could change but the tape. */
    static long[] told(HiddenBarrel x) {
        List<Long> out = new ArrayList<>();
        for (int what = 0; what < 4; what++) {
            out.add((long) x.ran(what));
            out.add((long) (what < 2 ? x.count(what) : x.fault(what - 2)));
        }
        for (int t = 0; t < x.count(0); t++) {
            for (int what = 0; what < 14; what++) {
                out.add((long) x.about(t, what));
            }
            out.add((long) x.lane(t, 0, 1));
            out.add((long) x.way(t, 0, 1));
            for (int w = 0; w < 2; w++) {
                out.add((long) x.found(t, w, 1));
                out.add((long) x.mean(t, w));
                out.add((long) x.where(t, w));
                out.add(x.likely(t, x.about(t, 0) - 1, w));
            }
            out.add((long) x.next(t));
        }
        return out.stream().mapToLong(i -> i).toArray();
    }

    static void same(String when, long[] got, long[] want) {
        Check.due(when + ", how much is told", got.length, want.length);
        for (int i = 0; i < want.length && i < got.length; i++) {
            Check.due(when + ", told number " + i, got[i], want[i]);
        }
    }

    /** Calls that are refused, each with such an answer; nothing that is told changes by them. */
    static void refused(String call, HiddenBarrel x, long answer, Asked asked, int... numbers) {
        long[] before = told(x);
        for (int n : numbers) {
            Check.due(call + " with " + n, asked.of(x, n), answer);
        }
        same(call + " behind refused calls", told(x), before);
    }

    /** The same with a new object of such a town. */
    static void refused(String call, String town, long answer, Asked asked, int... numbers) {
        refused(call, Check.with(town), answer, asked, numbers);
    }

    /** All whats: those from 0 on have such answers, others have none. */
    static void whats(String call, Supplier<HiddenBarrel> made, long none, Asked asked, long... answers) {
        HiddenBarrel x = made.get();
        for (int what = 0; what < answers.length; what++) {
            Check.due(call + ", what " + what, asked.of(x, what), answers[what]);
        }
        for (int what : outside(0, answers.length - 1)) {
            Check.due(call + ", what " + what, asked.of(x, what), none);
        }
    }

    static void whats(String call, String town, long none, Asked asked, long... answers) {
        whats(call, () -> Check.with(town), none, asked, answers);
    }
}
