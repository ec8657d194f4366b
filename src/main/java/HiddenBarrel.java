import java.util.Arrays;

/**
 * Hidden in a town: a barrel in one of several cellars, and who goes to look.
 *
 * <p>Every row that a call needs is made once, in the constructors: all calls of a run live in one
 * small room, so no call makes an object or an array.
 */
public final class HiddenBarrel {
    public static final int NONE = -1;

    private static final int NO_SUCH = -2;
    private static final long UNTOLD = -1000000000000L;
    private static final long NO_GAIN = -4000000000000000000L;

    private static final int MOST_BYTES = 500;
    private static final int FED_BYTES = 20;
    private static final int MOST_TOWNS = 3;
    private static final int MOST_IMAGES = 3;
    private static final int MOST_PLACES = 8;
    private static final int PAIRS = 64;
    private static final int SETS = 256;
    private static final int MOST_LINES = 40;
    private static final int MOST_LANES = 20;
    private static final int MOST_MINUTES = 20;
    private static final int MOST_WALKS = 8;
    private static final int MOST_STOPS = 16;
    private static final int MOST_WEIGHT = 99;
    private static final int NEVER = 999;
    private static final int MOST_BELL = 999;
    private static final int MOST_DAYS = 5;
    private static final int MOST_DIARY = 7;
    private static final int MOST_LOOKS = 64;
    private static final int LOOKS_AT_ONE = 8;
    private static final int TWELVE = 12;
    private static final long TWELVE_TO_8 = 429981696L;

    /** Longer than any way can be: a place that no lane leads to. */
    private static final int FAR = 1000000;
    private static final int GREATEST = 2147483647;
    /** An end for loops whose own end lies in what they step through. */
    private static final int MOST_STEPS = 1000000;

    private static final int MOST_HIDING = 4;
    private static final int MOST_ROWS = 24;
    private static final int ROW_TRIPLES = 2024;
    private static final int[] FACTORIAL = {1, 1, 2, 6, 24};

    private static final int END = 0;
    private static final int SEMICOLON = 1;
    private static final int NUMBER = 2;
    private static final int WORD_PLACES = 3;
    private static final int WORD_LANE = 4;
    private static final int WORD_CHANCE = 5;
    private static final int WORD_DOG = 6;
    private static final int WORD_DIG = 7;
    private static final int WORD_PRIZE = 8;
    private static final int WORD_MOVE = 9;
    private static final int UNKNOWN = 10;

    private static final char[] PLACES = {'p', 'l', 'a', 'c', 'e', 's'};
    private static final char[] LANE = {'l', 'a', 'n', 'e'};
    private static final char[] CHANCE = {'c', 'h', 'a', 'n', 'c', 'e'};
    private static final char[] DOG = {'d', 'o', 'g'};
    private static final char[] DIG = {'d', 'i', 'g'};
    private static final char[] PRIZE = {'p', 'r', 'i', 'z', 'e'};
    private static final char[] MOVE = {'m', 'o', 'v', 'e'};

    private final World world;
    private final World[] images;
    private final boolean[] kept;
    private final Town draft;
    private final Reader reader;
    private final Routes routes;
    private final Game game;
    private final Game trial;
    private final Opening opening;
    private final Looks order;
    private final Nights nights;
    private final Tree branches;
    private final Postman coupling;
    /** Not part of an image: a mark must not come again for another text. */
    private int marks;

    public HiddenBarrel() {
        world = new World();
        images = new World[MOST_IMAGES];
        for (int i = 0; i < MOST_IMAGES; i++) {
            images[i] = new World();
        }
        kept = new boolean[MOST_IMAGES];
        draft = new Town();
        reader = new Reader();
        routes = new Routes();
        game = new Game();
        trial = new Game();
        opening = new Opening();
        order = new Looks();
        nights = new Nights();
        branches = new Tree();
        coupling = new Postman();
        marks = 0;
    }

    // ---- towns told as texts ----

    public int feed(int a, int b, int c, int d, int e) {
        if (world.length > MOST_BYTES - FED_BYTES) {
            return NONE;
        }
        world.append(a);
        world.append(b);
        world.append(c);
        world.append(d);
        world.append(e);
        return world.length;
    }

    public int end(int n) {
        if (n < 0 || n > world.length) {
            return NONE;
        }
        world.length = n;
        return n;
    }

    public int town(int at) {
        int length = world.length;
        world.length = 0;
        world.fault = 0;
        world.faultPlace = NONE;
        boolean further = at == NONE && world.townCount < MOST_TOWNS;
        int number = further ? world.townCount : at;
        if (!further && world.townAt(at) == null) {
            return NO_SUCH;
        }
        if (!reader.read(world.tape, length, draft)) {
            world.fault = reader.fault;
            world.faultPlace = reader.place;
            return NONE;
        }
        marks++;
        draft.mark = marks;
        if (further) {
            world.townCount++;
        }
        Town place = world.townAt(number);
        if (place == null) {
            return NO_SUCH;
        }
        place.copyFrom(draft);
        return number;
    }

    public int fault(int what) {
        if (what == 0) {
            return world.fault;
        }
        return what == 1 ? world.faultPlace : NONE;
    }

    public int about(int town, int what) {
        Town t = world.townAt(town);
        return t == null ? NONE : t.tell(what);
    }

    public int lane(int town, int a, int b) {
        Town t = world.townAt(town);
        if (t == null || !t.has(a) || !t.has(b)) {
            return NONE;
        }
        int minutes = t.minutes[a * MOST_PLACES + b];
        return minutes == 0 ? NONE : minutes;
    }

    public int way(int town, int a, int b) {
        Town t = world.townAt(town);
        if (t == null || !t.has(a) || !t.has(b)) {
            return NONE;
        }
        return t.ways[a * MOST_PLACES + b];
    }

    // ---- walks, told and best ----

    public int walk(int town) {
        Town t = world.townAt(town);
        if (t == null || t.walks >= MOST_WALKS) {
            return NONE;
        }
        t.stopCount[t.walks] = 0;
        t.weight[t.walks] = 1;
        t.walks++;
        return t.walks - 1;
    }

    public int stop(int town, int walk, int place) {
        Town t = world.townAt(town);
        if (t == null || !t.hasWalk(walk) || !t.has(place) || t.stopCount[walk] >= MOST_STOPS) {
            return NONE;
        }
        t.stops[walk * MOST_STOPS + t.stopCount[walk]] = place;
        t.stopCount[walk]++;
        return t.stopCount[walk];
    }

    public boolean weigh(int town, int walk, int weight) {
        Town t = world.townAt(town);
        if (t == null || !t.hasWalk(walk) || weight < 0 || weight > MOST_WEIGHT) {
            return false;
        }
        t.weight[walk] = weight;
        return true;
    }

    public int found(int town, int walk, int place) {
        Town t = world.townAt(town);
        if (t == null || !t.hasWalk(walk) || !t.has(place)) {
            return NONE;
        }
        return t.foundBy(walk, place);
    }

    public int mean(int town, int walk) {
        Town t = world.townAt(town);
        return t == null || !t.hasWalk(walk) ? NONE : t.meanOf(walk);
    }

    public int best(int town, int what) {
        Town t = world.townAt(town);
        if (t == null || what < 0) {
            return NONE;
        }
        routes.planWalk(t);
        return what == 0 ? routes.least : routes.stopAt(what - 1);
    }

    public int two(int town, int what) {
        Town t = world.townAt(town);
        if (t == null || what < 0 || what > 2) {
            return NONE;
        }
        routes.planTwo(t);
        if (what == 0) {
            return routes.least;
        }
        return what == 1 ? routes.chosen : t.cellarsAway() ^ routes.chosen;
    }

    public int barrels(int town, boolean both, int what) {
        Town t = world.townAt(town);
        if (t == null || what < 0 || Integer.bitCount(t.cellars) < 2) {
            return NONE;
        }
        routes.planBarrels(t, both);
        return what == 0 ? routes.least : routes.stopAt(what - 1);
    }

    public int more(int town, int minutes, int what) {
        Town t = world.townAt(town);
        if (t == null || minutes < 1 || minutes > MOST_MINUTES || what < 0 || what > 2) {
            return NONE;
        }
        if (!routes.planMore(t, minutes)) {
            return NONE;
        }
        if (what == 0) {
            return routes.least;
        }
        return what == 1 ? routes.first : routes.second;
    }

    public int where(int town, int what) {
        Town t = world.townAt(town);
        if (t == null || what < 0 || what > 1) {
            return NONE;
        }
        int cellar = t.cellarFoundLast();
        if (cellar == NONE) {
            return NONE;
        }
        return what == 0 ? cellar : t.weighedFound(cellar);
    }

    // ---- both by chances ----

    public long both(int town, int what) {
        Town t = world.townAt(town);
        if (t == null || !game.settle(t.ways, t.cellarsAway())) {
            return UNTOLD;
        }
        switch (what) {
            case 0:
                return game.above;
            case 1:
                return game.below;
            case 2:
                return game.size;
            default:
                return what >= 10 && what < 10 + t.places ? game.shareOf(what - 10) : UNTOLD;
        }
    }

    public long goes(int town, int k, int what) {
        Town t = world.townAt(town);
        if (t == null || what < 0 || what > 1 || !game.settle(t.ways, t.cellarsAway())) {
            return UNTOLD;
        }
        if (k < 0 || k >= game.size) {
            return UNTOLD;
        }
        return what == 0 ? game.rowPick[k] : game.rowShare[k];
    }

    public long guard(int town, int what) {
        Town t = world.townAt(town);
        if (t == null || what < 0 || what > 2 || !opening.shutOne(t, trial)) {
            return UNTOLD;
        }
        if (what == 0) {
            return opening.shut;
        }
        return what == 1 ? opening.shutAbove : opening.shutBelow;
    }

    public long open(int town, int minutes, int what) {
        Town t = world.townAt(town);
        if (t == null || minutes < 1 || minutes > MOST_MINUTES || what < 0 || what > 3) {
            return UNTOLD;
        }
        if (!opening.addLane(t, minutes, game, trial)) {
            return UNTOLD;
        }
        switch (what) {
            case 0:
                return opening.first;
            case 1:
                return opening.second;
            case 2:
                return opening.above;
            default:
                return opening.below;
        }
    }

    // ---- towns that are trees, rounds ----

    public boolean tree(int town) {
        Town t = world.townAt(town);
        return t != null && t.isTree();
    }

    public long density(int town, int place, int what) {
        Town t = world.townAt(town);
        if (t == null || !t.isTree() || !t.has(place) || what < 0 || what > 1) {
            return NONE;
        }
        branches.grow(t);
        branches.weighEnd(t, place);
        return what == 0 ? branches.above : branches.below;
    }

    public int worth(int town) {
        Town t = world.townAt(town);
        return t == null || !t.isTree() ? NONE : t.allMinutes();
    }

    public int round(int town, int place) {
        Town t = world.townAt(town);
        if (t == null || !t.isTree() || !t.has(place)) {
            return NONE;
        }
        branches.grow(t);
        return branches.twiceRound(t, place);
    }

    public int postman(int town, int what) {
        Town t = world.townAt(town);
        if (t == null) {
            return NONE;
        }
        if (what == 0) {
            coupling.couple(t);
            return t.allMinutes() + coupling.least;
        }
        if (what < 10 || what >= 10 + t.places) {
            return NONE;
        }
        coupling.couple(t);
        return coupling.fellow[what - 10];
    }

    // ---- looks, side by side ----

    public int look(int town, int n) {
        Town t = world.townAt(town);
        if (t == null) {
            return NONE;
        }
        order.plan(t);
        return n >= 0 && n < order.count ? order.row[n] : NONE;
    }

    public long left(int town, int n) {
        Town t = world.townAt(town);
        if (t == null || n < 0 || n > MOST_LOOKS) {
            return NONE;
        }
        order.plan(t);
        return order.leftAfter[Math.min(n, order.count)];
    }

    public long gain(int town, int n) {
        Town t = world.townAt(town);
        if (t == null || n < 0 || n > MOST_LOOKS) {
            return NO_GAIN;
        }
        order.plan(t);
        return order.gainAfter[Math.min(n, order.count)];
    }

    public int leave(int town) {
        Town t = world.townAt(town);
        if (t == null) {
            return NONE;
        }
        order.plan(t);
        return order.greatestGain();
    }

    // ---- a barrel that moves by night ----

    public int chase(int town, int days, int what) {
        Town t = world.townAt(town);
        if (t == null || days < 1 || days > MOST_DAYS || what < 0 || what >= days) {
            return NONE;
        }
        nights.plan(t, days);
        return nights.bestRow[what];
    }

    public long caught(int town, int days) {
        Town t = world.townAt(town);
        if (t == null || days < 1 || days > MOST_DAYS) {
            return NONE;
        }
        nights.plan(t, days);
        return nights.most;
    }

    public int diary(int town, int place) {
        Town t = world.townAt(town);
        if (t == null || !t.has(place) || t.days >= MOST_DIARY) {
            return NONE;
        }
        t.diary[t.days] = place;
        t.days++;
        return t.days;
    }

    public boolean forget(int town) {
        Town t = world.townAt(town);
        if (t == null || t.days == 0) {
            return false;
        }
        t.days = 0;
        return true;
    }

    public long likely(int town, int place, int what) {
        Town t = world.townAt(town);
        if (t == null || !t.has(place) || what < 0 || what > 1) {
            return NONE;
        }
        nights.readDiary(t);
        long all = nights.sumNow(t);
        if (all == 0) {
            return what;
        }
        long above = nights.now[place];
        long common = commonDivisor(above, all);
        if (common == 0) {
            return NONE;
        }
        return what == 0 ? above / common : all / common;
    }

    public int next(int town) {
        Town t = world.townAt(town);
        if (t == null) {
            return NONE;
        }
        nights.readDiary(t);
        return nights.likeliestNow(t);
    }

    // ---- till a bell; a box that half shows ----

    public int bell(int town, int minutes, int what) {
        Town t = world.townAt(town);
        if (t == null || minutes < 0 || minutes > MOST_BELL || what < 0) {
            return NONE;
        }
        routes.planBell(t, minutes);
        switch (what) {
            case 0:
                return routes.most;
            case 1:
                return routes.least;
            case 2:
                return routes.chosen;
            default:
                return routes.stopAt(what - 3);
        }
    }

    public int right(int town, int h, int set) {
        Town t = world.townAt(town);
        if (t == null || h < 0 || h > TWELVE || (set >> t.places) != 0) {
            return NONE;
        }
        return t.rightBy(h, set);
    }

    public int box(int town, int h) {
        Town t = world.townAt(town);
        if (t == null || h < 0 || h > TWELVE) {
            return NONE;
        }
        int best = 0;
        int most = t.rightBy(h, 0);
        for (int set = 1; set < 1 << t.places; set++) {
            int parts = t.rightBy(h, set);
            if (parts > most) {
                most = parts;
                best = set;
            }
        }
        return best;
    }

    // ---- a search run by a seed; what is told; images ----

    public int run(int town, int looks, int seed) {
        Town t = world.townAt(town);
        if (t == null || looks < 0 || looks > MOST_LOOKS) {
            return NONE;
        }
        order.plan(t);
        world.seek(t, order, looks, seed);
        return world.foundIn;
    }

    public int ran(int what) {
        if (world.searches == 0) {
            return NONE;
        }
        switch (what) {
            case 0:
                return world.lies;
            case 1:
                return world.foundIn;
            case 2:
                return world.spent;
            case 3:
                return world.misses;
            default:
                return NONE;
        }
    }

    public int count(int what) {
        if (what == 0) {
            return world.townCount;
        }
        return what == 1 ? world.searches : NO_SUCH;
    }

    public boolean image(int k) {
        if (k < 0 || k >= MOST_IMAGES) {
            return false;
        }
        World image = images[k];
        if (image == null) {
            return false;
        }
        image.copyFrom(world);
        kept[k] = true;
        return true;
    }

    public boolean again(int k) {
        World image = k >= 0 && k < MOST_IMAGES && kept[k] ? images[k] : null;
        if (image == null) {
            return false;
        }
        world.copyFrom(image);
        return true;
    }

    // ---- numbers ----

    private static long commonDivisor(long a, long b) {
        for (int i = 0; i < MOST_STEPS && b != 0; i++) {
            long rest = a % b;
            a = b;
            b = rest;
        }
        return a;
    }

    /**
     * Whether a / b is less than c / d, none of them below 0, b and d above 0. The products across
     * could be too great for a long, so whole parts are compared, then what is left, upside down.
     */
    private static boolean isLess(long a, long b, long c, long d) {
        for (int i = 0; i < MOST_STEPS && b > 0 && d > 0; i++) {
            long whole = a / b;
            long otherWhole = c / d;
            if (whole != otherWhole) {
                return whole < otherWhole;
            }
            long rest = a - whole * b;
            long otherRest = c - otherWhole * d;
            if (rest == 0 || otherRest == 0) {
                return otherRest != 0;
            }
            a = d;
            c = b;
            b = otherRest;
            d = rest;
        }
        return false;
    }

    /** The determinant of the first lines and columns, at most 3, of a square with 3 a line. */
    private static long determinant(long[] m, int size) {
        switch (size) {
            case 0:
                return 1;
            case 1:
                return m[0];
            case 2:
                return m[0] * m[4] - m[1] * m[3];
            default:
                return m[0] * (m[4] * m[8] - m[5] * m[7])
                        - m[1] * (m[3] * m[8] - m[5] * m[6])
                        + m[2] * (m[3] * m[7] - m[4] * m[6]);
        }
    }

    private static boolean isIn(int set, int place) {
        return (set >> place & 1) != 0;
    }

    private static int leastOf(int set) {
        for (int place = 0; place < MOST_PLACES; place++) {
            if (isIn(set, place)) {
                return place;
            }
        }
        return 0;
    }

    private static int drawAfter(int x) {
        return x * 1103515245 + 12345;
    }

    private static int numberOf(int x) {
        return x >> 16 & 32767;
    }

    /** All that is told, and so all that an image keeps. */
    private static final class World {
        private final byte[] tape;
        private final Town[] towns;
        private int length;
        private int fault;
        private int faultPlace;
        private int townCount;
        private int searches;
        private int lies;
        private int foundIn;
        private int spent;
        private int misses;

        private World() {
            tape = new byte[MOST_BYTES];
            towns = new Town[MOST_TOWNS];
            for (int i = 0; i < MOST_TOWNS; i++) {
                towns[i] = new Town();
            }
            faultPlace = NONE;
        }

        private void copyFrom(World other) {
            System.arraycopy(other.tape, 0, tape, 0, MOST_BYTES);
            for (int i = 0; i < MOST_TOWNS; i++) {
                Town mine = towns[i];
                Town theirs = other.towns[i];
                if (mine != null && theirs != null) {
                    mine.copyFrom(theirs);
                }
            }
            length = other.length;
            fault = other.fault;
            faultPlace = other.faultPlace;
            townCount = other.townCount;
            searches = other.searches;
            lies = other.lies;
            foundIn = other.foundIn;
            spent = other.spent;
            misses = other.misses;
        }

        private Town townAt(int n) {
            return n >= 0 && n < townCount && n < MOST_TOWNS ? towns[n] : null;
        }

        private void append(int number) {
            for (int shift = 24; shift >= 0 && length < MOST_BYTES; shift -= 8) {
                tape[length] = (byte) (number >> shift);
                length++;
            }
        }

        private void seek(Town t, Looks order, int most, int seed) {
            int x = drawAfter(seed);
            lies = t.cellarByNumber(numberOf(x));
            foundIn = 0;
            spent = 0;
            misses = 0;
            for (int i = 0; i < most && i < order.count && foundIn == 0; i++) {
                int place = order.row[i];
                spent += t.dig[place];
                if (place == lies) {
                    x = drawAfter(x);
                    if (numberOf(x) % TWELVE < t.dog[place]) {
                        foundIn = i + 1;
                    } else {
                        misses++;
                    }
                }
            }
            searches++;
        }
    }

    /** A town as its text tells it, with its walks and its diary. */
    private static final class Town {
        /** No two texts that were read share one: by it, what was worked out is known again. */
        private int mark;
        private int places;
        private int lanes;
        private int all;
        private int cellars;
        private int prize;
        private int move;
        private final int[] minutes;
        private final int[] ways;
        private final int[] chance;
        private final int[] dog;
        private final int[] dig;
        private int walks;
        private final int[] stops;
        private final int[] stopCount;
        private final int[] weight;
        private int days;
        private final int[] diary;

        private Town() {
            minutes = new int[PAIRS];
            ways = new int[PAIRS];
            chance = new int[MOST_PLACES];
            dog = new int[MOST_PLACES];
            dig = new int[MOST_PLACES];
            stops = new int[MOST_WALKS * MOST_STOPS];
            stopCount = new int[MOST_WALKS];
            weight = new int[MOST_WALKS];
            diary = new int[MOST_DIARY];
        }

        private void begin(int placesTold) {
            places = placesTold;
            lanes = 0;
            prize = 0;
            move = 0;
            walks = 0;
            days = 0;
            Arrays.fill(minutes, 0);
            Arrays.fill(chance, 0);
            Arrays.fill(dog, TWELVE);
            Arrays.fill(dig, 1);
        }

        private void copyFrom(Town other) {
            mark = other.mark;
            places = other.places;
            lanes = other.lanes;
            all = other.all;
            cellars = other.cellars;
            prize = other.prize;
            move = other.move;
            walks = other.walks;
            days = other.days;
            System.arraycopy(other.minutes, 0, minutes, 0, PAIRS);
            System.arraycopy(other.ways, 0, ways, 0, PAIRS);
            System.arraycopy(other.chance, 0, chance, 0, MOST_PLACES);
            System.arraycopy(other.dog, 0, dog, 0, MOST_PLACES);
            System.arraycopy(other.dig, 0, dig, 0, MOST_PLACES);
            System.arraycopy(other.stops, 0, stops, 0, MOST_WALKS * MOST_STOPS);
            System.arraycopy(other.stopCount, 0, stopCount, 0, MOST_WALKS);
            System.arraycopy(other.weight, 0, weight, 0, MOST_WALKS);
            System.arraycopy(other.diary, 0, diary, 0, MOST_DIARY);
        }

        private boolean has(int place) {
            return place >= 0 && place < places;
        }

        private boolean hasWalk(int walk) {
            return walk >= 0 && walk < walks;
        }

        private int cellarsAway() {
            return cellars & ~1;
        }

        private boolean isTree() {
            return lanes == places - 1;
        }

        private boolean hasLane(int a, int b) {
            return minutes[a * MOST_PLACES + b] != 0;
        }

        private int tell(int what) {
            switch (what) {
                case 0:
                    return places;
                case 1:
                    return lanes;
                case 2:
                    return all;
                case 3:
                    return cellars;
                case 4:
                    return prize;
                case 5:
                    return move;
                case 6:
                    return walks;
                case 7:
                    return days;
                default:
                    return tellOfPlace(what);
            }
        }

        private int tellOfPlace(int what) {
            if (what >= 10 && what < 10 + places) {
                return chance[what - 10];
            }
            if (what >= 20 && what < 20 + places) {
                return dog[what - 20];
            }
            return what >= 30 && what < 30 + places ? dig[what - 30] : NONE;
        }

        private void addLane(int a, int b, int minutesTold) {
            minutes[a * MOST_PLACES + b] = minutesTold;
            minutes[b * MOST_PLACES + a] = minutesTold;
            lanes++;
        }

        private void countCellars() {
            all = 0;
            cellars = 0;
            for (int a = 0; a < places; a++) {
                all += chance[a];
                if (chance[a] > 0) {
                    cellars |= 1 << a;
                }
            }
        }

        private void findWays() {
            for (int i = 0; i < PAIRS; i++) {
                ways[i] = minutes[i] == 0 ? FAR : minutes[i];
            }
            for (int a = 0; a < MOST_PLACES; a++) {
                ways[a * MOST_PLACES + a] = 0;
            }
            for (int by = 0; by < places; by++) {
                for (int a = 0; a < places; a++) {
                    for (int b = 0; b < places; b++) {
                        int through = ways[a * MOST_PLACES + by] + ways[by * MOST_PLACES + b];
                        if (through < ways[a * MOST_PLACES + b]) {
                            ways[a * MOST_PLACES + b] = through;
                        }
                    }
                }
            }
        }

        /** The ways with one lane more; none needs that lane twice. */
        private void widen(int p, int q, int minutesTold, int[] into) {
            for (int a = 0; a < places; a++) {
                for (int b = 0; b < places; b++) {
                    int there = ways[a * MOST_PLACES + p] + ways[q * MOST_PLACES + b];
                    int back = ways[a * MOST_PLACES + q] + ways[p * MOST_PLACES + b];
                    int through = minutesTold + Math.min(there, back);
                    into[a * MOST_PLACES + b] = Math.min(ways[a * MOST_PLACES + b], through);
                }
            }
        }

        private boolean isJoined() {
            for (int a = 0; a < places; a++) {
                if (ways[a] >= FAR) {
                    return false;
                }
            }
            return true;
        }

        private int lanesAt(int place) {
            int sum = 0;
            for (int b = 0; b < places; b++) {
                if (hasLane(place, b)) {
                    sum++;
                }
            }
            return sum;
        }

        private boolean isCrowded() {
            for (int a = 0; a < places; a++) {
                if (lanesAt(a) * move > TWELVE) {
                    return true;
                }
            }
            return false;
        }

        private int allMinutes() {
            int sum = 0;
            for (int a = 0; a < places; a++) {
                for (int b = a + 1; b < places; b++) {
                    sum += minutes[a * MOST_PLACES + b];
                }
            }
            return sum;
        }

        private int foundBy(int walk, int place) {
            if (place == 0) {
                return 0;
            }
            int at = 0;
            int minute = 0;
            for (int i = 0; i < stopCount[walk] && i < MOST_STOPS; i++) {
                int to = stops[walk * MOST_STOPS + i];
                minute += ways[at * MOST_PLACES + to];
                if (to == place) {
                    return minute;
                }
                at = to;
            }
            return NONE;
        }

        private int meanOf(int walk) {
            int sum = 0;
            for (int a = 0; a < places; a++) {
                if (chance[a] > 0) {
                    int minute = foundBy(walk, a);
                    if (minute == NONE) {
                        return NONE;
                    }
                    sum += chance[a] * minute;
                }
            }
            return sum;
        }

        private int weighedFound(int cellar) {
            int sum = 0;
            for (int w = 0; w < walks; w++) {
                int minute = foundBy(w, cellar);
                sum += weight[w] * (minute == NONE ? NEVER : minute);
            }
            return sum;
        }

        private int cellarFoundLast() {
            int weights = 0;
            for (int w = 0; w < walks; w++) {
                weights += weight[w];
            }
            int best = NONE;
            int most = NONE;
            for (int a = 0; a < places && weights > 0; a++) {
                int sum = chance[a] > 0 ? weighedFound(a) : NONE;
                if (sum > most) {
                    most = sum;
                    best = a;
                }
            }
            return best;
        }

        private int rightBy(int h, int set) {
            int shownIn = 0;
            int shownNot = 0;
            for (int a = 0; a < places; a++) {
                int in = isIn(set, a) ? h : TWELVE - h;
                shownIn = Math.max(shownIn, chance[a] * in);
                shownNot = Math.max(shownNot, chance[a] * (TWELVE - in));
            }
            return shownIn + shownNot;
        }

        private int cellarByNumber(int number) {
            int rest = all > 0 ? number % all : 0;
            for (int a = 0; a < places; a++) {
                rest -= chance[a];
                if (rest < 0) {
                    return a;
                }
            }
            return 0;
        }
    }

    /** Reads a text: first whether it is one at all, then whether what it tells can be. */
    private static final class Reader {
        private final int[] kinds;
        private final int[] starts;
        private final int[] values;
        private int tokens;
        private int fault;
        private int place;

        private Reader() {
            kinds = new int[MOST_BYTES + 1];
            starts = new int[MOST_BYTES + 1];
            values = new int[MOST_BYTES + 1];
        }

        private boolean read(byte[] tape, int length, Town town) {
            fault = 0;
            place = NONE;
            cut(tape, Math.min(length, tape.length));
            return isText() && takeLines(town) && isWhole(town, length);
        }

        private boolean refuse(int faultFound, int placeOfIt) {
            fault = faultFound;
            place = placeOfIt;
            return false;
        }

        private void cut(byte[] tape, int length) {
            tokens = 0;
            int behind = 0;
            for (int at = 0; at < length; at++) {
                if (at >= behind && tape[at] != ' ' && tape[at] != '\n') {
                    behind = endOfToken(tape, at, length);
                    add(kindOf(tape, at, behind), at, valueOf(tape, at, behind));
                }
            }
            add(END, length, 0);
        }

        private void add(int kind, int start, int value) {
            if (tokens < kinds.length) {
                kinds[tokens] = kind;
                starts[tokens] = start;
                values[tokens] = value;
                tokens++;
            }
        }

        private static boolean isLetter(byte sign) {
            return sign >= 'a' && sign <= 'z';
        }

        private static boolean isDigit(byte sign) {
            return sign >= '0' && sign <= '9';
        }

        private static int endOfToken(byte[] tape, int at, int length) {
            int to = at + 1;
            if (isLetter(tape[at])) {
                while (to < length && isLetter(tape[to])) {
                    to++;
                }
            } else if (isDigit(tape[at])) {
                while (to < length && isDigit(tape[to])) {
                    to++;
                }
            }
            return to;
        }

        private static int kindOf(byte[] tape, int from, int to) {
            if (isDigit(tape[from])) {
                return to - from <= 4 ? NUMBER : UNKNOWN;
            }
            if (tape[from] == ';') {
                return SEMICOLON;
            }
            if (says(tape, from, to, PLACES)) {
                return WORD_PLACES;
            }
            if (says(tape, from, to, LANE)) {
                return WORD_LANE;
            }
            if (says(tape, from, to, CHANCE)) {
                return WORD_CHANCE;
            }
            if (says(tape, from, to, DOG)) {
                return WORD_DOG;
            }
            if (says(tape, from, to, DIG)) {
                return WORD_DIG;
            }
            if (says(tape, from, to, PRIZE)) {
                return WORD_PRIZE;
            }
            return says(tape, from, to, MOVE) ? WORD_MOVE : UNKNOWN;
        }

        private static boolean says(byte[] tape, int from, int to, char[] word) {
            if (to - from != word.length) {
                return false;
            }
            for (int i = 0; i < word.length; i++) {
                if (tape[from + i] != word[i]) {
                    return false;
                }
            }
            return true;
        }

        /** Of a row of digits too long for a NUMBER the value is not used. */
        private static int valueOf(byte[] tape, int from, int to) {
            int value = 0;
            for (int i = from; i < to && i < from + 4; i++) {
                value = value * 10 + (tape[i] - '0');
            }
            return value;
        }

        private int kindAt(int i) {
            return i >= 0 && i < tokens ? kinds[i] : END;
        }

        private int startAt(int i) {
            return i >= 0 && i < tokens ? starts[i] : 0;
        }

        private int valueAt(int i) {
            return i >= 0 && i < tokens ? values[i] : 0;
        }

        private static int numbersBehind(int word) {
            switch (word) {
                case WORD_LANE:
                    return 3;
                case WORD_CHANCE:
                case WORD_DOG:
                case WORD_DIG:
                    return 2;
                case WORD_PLACES:
                case WORD_PRIZE:
                case WORD_MOVE:
                    return 1;
                default:
                    return 0;
            }
        }

        /** Behind the head, of three tokens, lines alone; each of them is longer than one token. */
        private boolean isText() {
            if (!isLine(0, true)) {
                return false;
            }
            int at = 3;
            for (int line = 0; line < tokens && kindAt(at) != END; line++) {
                if (!isLine(at, false)) {
                    return false;
                }
                at += 2 + numbersBehind(kindAt(at));
            }
            return true;
        }

        private boolean isLine(int at, boolean head) {
            int word = kindAt(at);
            int numbers = numbersBehind(word);
            if (head != (word == WORD_PLACES) || numbers == 0) {
                return refuse(1, startAt(at));
            }
            for (int i = at + 1; i <= at + numbers + 1; i++) {
                if (kindAt(i) != (i <= at + numbers ? NUMBER : SEMICOLON)) {
                    return refuse(1, startAt(i));
                }
            }
            return true;
        }

        private boolean takeLines(Town town) {
            int places = valueAt(1);
            if (places < 2 || places > MOST_PLACES) {
                return refuse(2, startAt(1));
            }
            town.begin(places);
            int at = 3;
            for (int line = 0; line < MOST_LINES && kindAt(at) != END; line++) {
                if (!takeLine(town, at)) {
                    return false;
                }
                at += 2 + numbersBehind(kindAt(at));
            }
            return kindAt(at) == END || refuse(3, startAt(at));
        }

        private boolean takeLine(Town town, int at) {
            switch (kindAt(at)) {
                case WORD_LANE:
                    return takeLane(town, at);
                case WORD_CHANCE:
                    return takeOfPlace(town, at, town.chance, 0, 99);
                case WORD_DOG:
                    return takeOfPlace(town, at, town.dog, 1, TWELVE);
                case WORD_DIG:
                    return takeOfPlace(town, at, town.dig, 1, 99);
                case WORD_PRIZE:
                    town.prize = valueAt(at + 1);
                    return isNumber(at + 1, 0, 999);
                default:
                    town.move = valueAt(at + 1);
                    return isNumber(at + 1, 0, TWELVE);
            }
        }

        private boolean isNumber(int at, int least, int most) {
            int value = valueAt(at);
            return value >= least && value <= most || refuse(2, startAt(at));
        }

        private boolean takeLane(Town town, int at) {
            int a = valueAt(at + 1);
            int b = valueAt(at + 2);
            if (town.lanes >= MOST_LANES || town.has(a) && town.has(b) && town.hasLane(a, b)) {
                return refuse(3, startAt(at));
            }
            if (!town.has(a)) {
                return refuse(2, startAt(at + 1));
            }
            if (!town.has(b) || a == b) {
                return refuse(2, startAt(at + 2));
            }
            if (!isNumber(at + 3, 1, MOST_MINUTES)) {
                return false;
            }
            town.addLane(a, b, valueAt(at + 3));
            return true;
        }

        private boolean takeOfPlace(Town town, int at, int[] row, int least, int most) {
            int a = valueAt(at + 1);
            if (!town.has(a) || a >= row.length) {
                return refuse(2, startAt(at + 1));
            }
            row[a] = valueAt(at + 2);
            return isNumber(at + 2, least, most);
        }

        private boolean isWhole(Town town, int length) {
            town.countCellars();
            town.findWays();
            if (town.all == 0) {
                return refuse(4, length);
            }
            if (!town.isJoined()) {
                return refuse(5, length);
            }
            return !town.isCrowded() || refuse(6, length);
        }
    }

    /**
     * The best rows of places. What a minute costs hangs on the set still ahead alone, so the least
     * cost from a place on, for each set ahead, is put together from smaller sets.
     */
    private static final class Routes {
        private final int[] sums;
        private final int[] couples;
        private final int[] rate;
        private final int[] cost;
        private final int[] wider;
        private final int[] row;
        private int length;
        private int least;
        private int most;
        private int chosen;
        private int first;
        private int second;

        private Routes() {
            sums = new int[SETS];
            couples = new int[SETS];
            rate = new int[SETS];
            cost = new int[MOST_PLACES * SETS];
            wider = new int[PAIRS];
            row = new int[MOST_PLACES];
        }

        private int stopAt(int k) {
            return k >= 0 && k < length ? row[k] : NONE;
        }

        private void planWalk(Town t) {
            sumUp(t);
            System.arraycopy(sums, 0, rate, 0, SETS);
            fillCosts(t.ways, t.places, t.cellarsAway());
            least = cost[t.cellarsAway()];
            trace(t, t.cellarsAway());
        }

        private void planTwo(Town t) {
            planWalk(t);
            int goal = t.cellarsAway();
            chosen = 0;
            for (int set = 1; set <= goal; set++) {
                if ((set & ~goal) == 0 && cost[set] + cost[goal ^ set] < least) {
                    least = cost[set] + cost[goal ^ set];
                    chosen = set;
                }
            }
        }

        private void planBarrels(Town t, boolean both) {
            sumUp(t);
            for (int set = 0; set < SETS; set++) {
                rate[set] = both ? couples[t.cellars] - couples[t.cellars & ~set] : couples[set];
            }
            fillCosts(t.ways, t.places, t.cellarsAway());
            least = cost[t.cellarsAway()];
            trace(t, t.cellarsAway());
        }

        private boolean planMore(Town t, int minutes) {
            sumUp(t);
            System.arraycopy(sums, 0, rate, 0, SETS);
            first = NONE;
            second = NONE;
            for (int a = 0; a < t.places; a++) {
                for (int b = a + 1; b < t.places; b++) {
                    if (!t.hasLane(a, b)) {
                        t.widen(a, b, minutes, wider);
                        fillCosts(wider, t.places, t.cellarsAway());
                        if (first == NONE || cost[t.cellarsAway()] < least) {
                            least = cost[t.cellarsAway()];
                            first = a;
                            second = b;
                        }
                    }
                }
            }
            return first != NONE;
        }

        private void planBell(Town t, int minutes) {
            Arrays.fill(rate, 1);
            fillCosts(t.ways, t.places, t.cellars);
            chosen = 0;
            most = 0;
            least = 0;
            for (int set = 1; set <= t.cellars; set++) {
                if ((set & ~t.cellars) == 0) {
                    int spent = cost[set] + sumOf(t.dig, set, t.places);
                    int smell = smellOf(t, set);
                    if (spent <= minutes && (smell > most || smell == most && spent < least)) {
                        chosen = set;
                        most = smell;
                        least = spent;
                    }
                }
            }
            trace(t, chosen);
        }

        private static int sumOf(int[] numbers, int set, int places) {
            int sum = 0;
            for (int a = 0; a < places; a++) {
                if (isIn(set, a)) {
                    sum += numbers[a];
                }
            }
            return sum;
        }

        private static int smellOf(Town t, int set) {
            int sum = 0;
            for (int a = 0; a < t.places; a++) {
                if (isIn(set, a)) {
                    sum += t.chance[a] * t.dog[a];
                }
            }
            return sum;
        }

        /** Of each set: its chances together, and its couples' together. */
        private void sumUp(Town t) {
            sums[0] = 0;
            couples[0] = 0;
            for (int set = 1; set < SETS; set++) {
                int a = leastOf(set);
                int others = set & (set - 1);
                int chance = t.has(a) ? t.chance[a] : 0;
                sums[set] = sums[others] + chance;
                couples[set] = couples[others] + chance * sums[others];
            }
        }

        private void fillCosts(int[] ways, int places, int goal) {
            for (int set = 0; set <= goal && set < SETS; set++) {
                if ((set & ~goal) == 0) {
                    for (int from = 0; from < places; from++) {
                        if (from == 0 || isIn(goal & ~set, from)) {
                            cost[from * SETS + set] = set == 0 ? 0 : leastFrom(ways, places, from, set);
                        }
                    }
                }
            }
        }

        private int leastFrom(int[] ways, int places, int from, int set) {
            int found = GREATEST;
            for (int to = 0; to < places; to++) {
                if (isIn(set, to)) {
                    found = Math.min(found, costBy(ways, from, to, set));
                }
            }
            return found;
        }

        private int costBy(int[] ways, int from, int to, int set) {
            return ways[from * MOST_PLACES + to] * rate[set] + cost[to * SETS + (set ^ 1 << to)];
        }

        /** The least row: at each step the least place from which the least cost can still be had. */
        private void trace(Town t, int goal) {
            length = 0;
            int from = 0;
            int set = goal;
            for (int step = 0; step < MOST_PLACES && set != 0; step++) {
                int to = firstOf(t, from, set);
                row[length] = to;
                length++;
                set &= ~(1 << to);
                from = to;
            }
        }

        private int firstOf(Town t, int from, int set) {
            for (int to = 0; to < t.places; to++) {
                if (isIn(set, to) && costBy(t.ways, from, to, set) == cost[from * SETS + set]) {
                    return to;
                }
            }
            return 0;
        }
    }

    /**
     * Both by chances. M has a line for each cellar and a column for each row of cellars; in it,
     * kernels are tried in the order that the document tells, and the first that stands is it.
     */
    private static final class Game {
        private int cells;
        private int rows;
        private final int[] cellar;
        private final int[] found;
        /** What the kernel at hand was found for: as long as it is the same, so is the kernel. */
        private final int[] settled;
        private int settledCells;
        private final int[] cellPick;
        private final int[] rowPick;
        /** Of n rows, how many choices of 1 .. 3 there are. */
        private final int[] choices;
        private final long[] ones;
        private final long[] square;
        private final long[] cellShare;
        private final long[] rowShare;
        /** Whether S of the kernel at hand is below 0, so that all its numbers are turned. */
        private boolean turned;
        private int size;
        private long above;
        private long below;
        private long heldAbove;
        private long heldBelow;

        private Game() {
            cellar = new int[MOST_HIDING];
            found = new int[MOST_HIDING * MOST_ROWS];
            settled = new int[MOST_HIDING * MOST_ROWS];
            cellPick = new int[MOST_HIDING];
            rowPick = new int[MOST_HIDING];
            choices = new int[MOST_HIDING * MOST_ROWS];
            for (int n = 0; n < MOST_ROWS; n++) {
                choices[MOST_ROWS + n] = n;
                choices[2 * MOST_ROWS + n] = n * (n - 1) / 2;
                choices[3 * MOST_ROWS + n] = n * (n - 1) * (n - 2) / 6;
            }
            ones = new long[ROW_TRIPLES];
            square = new long[9];
            cellShare = new long[MOST_HIDING];
            rowShare = new long[MOST_HIDING];
        }

        private boolean settle(int[] ways, int set) {
            int count = Integer.bitCount(set);
            if (count < 1 || count > MOST_HIDING) {
                return false;
            }
            cells = count;
            rows = FACTORIAL[count];
            int n = 0;
            for (int a = 0; a < MOST_PLACES && n < count; a++) {
                if (isIn(set, a)) {
                    cellar[n] = a;
                    n++;
                }
            }
            Arrays.fill(found, 0);
            for (int row = 0; row < rows; row++) {
                fillRow(ways, row);
            }
            if (!isSettled()) {
                System.arraycopy(found, 0, settled, 0, found.length);
                settledCells = cells;
                search();
            }
            return size > 0;
        }

        private boolean isSettled() {
            for (int i = 0; i < found.length; i++) {
                if (found[i] != settled[i]) {
                    return false;
                }
            }
            return settledCells == cells;
        }

        private void fillRow(int[] ways, int row) {
            int ahead = (1 << cells) - 1;
            int rest = row;
            int from = 0;
            int minute = 0;
            for (int i = cells - 1; i >= 0; i--) {
                int block = Math.max(FACTORIAL[i], 1);
                int cell = memberOf(ahead, rest / block);
                rest %= block;
                minute += ways[from * MOST_PLACES + cellar[cell]];
                found[cell * MOST_ROWS + row] = minute;
                ahead &= ~(1 << cell);
                from = cellar[cell];
            }
        }

        private static int memberOf(int set, int n) {
            int skipped = 0;
            for (int cell = 0; cell < MOST_HIDING; cell++) {
                if (isIn(set, cell)) {
                    if (skipped == n) {
                        return cell;
                    }
                    skipped++;
                }
            }
            return 0;
        }

        private long shareOf(int place) {
            for (int i = 0; i < size; i++) {
                if (cellar[cellPick[i]] == place) {
                    return cellShare[i];
                }
            }
            return 0;
        }

        private static void pickFirst(int[] pick, int k) {
            for (int i = 0; i < k; i++) {
                pick[i] = i;
            }
        }

        /** The next k of n in the order of rows; false behind the last. */
        private static boolean pickNext(int[] pick, int k, int n) {
            for (int i = k - 1; i >= 0; i--) {
                if (pick[i] < n - k + i) {
                    pick[i]++;
                    for (int j = i + 1; j < k; j++) {
                        pick[j] = pick[j - 1] + 1;
                    }
                    return true;
                }
            }
            return false;
        }

        private void search() {
            size = 0;
            heldBelow = 0;
            for (int k = 1; k <= cells; k++) {
                pickFirst(cellPick, k);
                boolean anyCells = true;
                for (int i = 0; i < MOST_STEPS && anyCells; i++) {
                    fillOnes(k);
                    pickFirst(rowPick, k);
                    boolean anyRows = true;
                    for (int j = 0; j < MOST_STEPS && anyRows; j++) {
                        if (weighRows(k) && isLeastYet(k) && weighCells(k) && noRowIsLess(k)) {
                            size = k;
                            return;
                        }
                        anyRows = pickNext(rowPick, k, rows);
                    }
                    anyCells = pickNext(cellPick, k, cells);
                }
            }
        }

        /**
         * For each choice of k - 1 rows: the determinant of their columns in M with a column of ones
         * behind. A row's sum of cofactors is that of the other rows of the kernel, but for its
         * sign; so each is worked out once, not once a kernel.
         */
        private void fillOnes(int k) {
            pickFirst(rowPick, k - 1);
            boolean any = true;
            for (int i = 0; i < MOST_STEPS && any; i++) {
                for (int line = 1; line < k; line++) {
                    for (int column = 0; column < k - 1; column++) {
                        square[(line - 1) * 3 + column] = minuteAt(line, column) - minuteAt(0, column);
                    }
                }
                long sum = determinant(square, k - 1);
                ones[rankOf(k - 1)] = (k & 1) == 1 ? sum : -sum;
                any = pickNext(rowPick, k - 1, rows);
            }
        }

        private long minuteAt(int line, int column) {
            return found[cellPick[line] * MOST_ROWS + rowPick[column]];
        }

        /** The place in ones of the first k picked rows: no two choices of k have the same. */
        private int rankOf(int k) {
            int rank = 0;
            for (int i = 0; i < k; i++) {
                rank += choices[(i + 1) * MOST_ROWS + rowPick[i]];
            }
            return rank;
        }

        /**
         * The rows' chances; false if there are none, or one is below 0. The rank of the kernel's
         * rows without one of them is had from that without the one behind it.
         */
        private boolean weighRows(int k) {
            long sum = 0;
            boolean more = false;
            boolean less = false;
            int rank = rankOf(k - 1);
            for (int i = k - 1; i >= 0; i--) {
                long part = (k - 1 - i & 1) == 1 ? -ones[rank] : ones[rank];
                more = more || part > 0;
                less = less || part < 0;
                if (more && less) {
                    return false;
                }
                rowShare[i] = Math.abs(part);
                sum += rowShare[i];
                if (i > 0) {
                    rank += choices[i * MOST_ROWS + rowPick[i]] - choices[i * MOST_ROWS + rowPick[i - 1]];
                }
            }
            turned = less;
            below = sum;
            return sum != 0;
        }

        /** The cellars' chances, likewise. */
        private boolean weighCells(int k) {
            for (int i = 0; i < k; i++) {
                for (int line = 0; line < k - 1; line++) {
                    int other = line < i ? line : line + 1;
                    for (int column = 1; column < k; column++) {
                        square[line * 3 + column - 1] = minuteAt(other, column) - minuteAt(other, 0);
                    }
                }
                long part = determinant(square, k - 1);
                cellShare[i] = ((i & 1) == 1) != turned ? -part : part;
                if (cellShare[i] < 0) {
                    return false;
                }
            }
            return true;
        }

        private long worthOfCell(int cell, int k) {
            long sum = 0;
            for (int i = 0; i < k; i++) {
                sum += rowShare[i] * found[cell * MOST_ROWS + rowPick[i]];
            }
            return sum;
        }

        private long worthOfRow(int row, int k) {
            long sum = 0;
            for (int i = 0; i < k; i++) {
                sum += cellShare[i] * found[cellPick[i] * MOST_ROWS + row];
            }
            return sum;
        }

        /**
         * Whether no cellar is worth more than the kernel against its rows' chances. As other rows
         * that hold him who hides to less would show that it can't be a kernel, the least such
         * worth is kept, and the cellars' chances of most kernels need not be worked out.
         */
        private boolean isLeastYet(int k) {
            above = worthOfCell(cellPick[0], k);
            for (int cell = 0; cell < cells; cell++) {
                if (worthOfCell(cell, k) > above) {
                    return false;
                }
            }
            if (heldBelow > 0 && isLess(heldAbove, heldBelow, above, below)) {
                return false;
            }
            heldAbove = above;
            heldBelow = below;
            return true;
        }

        private boolean noRowIsLess(int k) {
            for (int row = 0; row < rows; row++) {
                if (worthOfRow(row, k) < above) {
                    return false;
                }
            }
            return true;
        }
    }

    /** What is least worth to him who hides: one cellar shut, or one lane more. */
    private static final class Opening {
        private final int[] wider;
        private int shut;
        private long shutAbove;
        private long shutBelow;
        private int mark;
        private int minutes;
        private int first;
        private int second;
        private long above;
        private long below;

        private Opening() {
            wider = new int[PAIRS];
        }

        private boolean shutOne(Town t, Game trial) {
            int away = t.cellarsAway();
            int count = Integer.bitCount(away);
            if (count < 1 || count > MOST_HIDING) {
                return false;
            }
            shut = NONE;
            for (int a = 1; a < t.places; a++) {
                if (isIn(away, a)) {
                    boolean some = trial.settle(t.ways, away & ~(1 << a));
                    long worthAbove = some ? trial.above : 0;
                    long worthBelow = some ? trial.below : 1;
                    if (shut == NONE || isLess(worthAbove, worthBelow, shutAbove, shutBelow)) {
                        shut = a;
                        shutAbove = worthAbove;
                        shutBelow = worthBelow;
                    }
                }
            }
            return true;
        }

        private boolean addLane(Town t, int minutesTold, Game game, Game trial) {
            if (!game.settle(t.ways, t.cellarsAway())) {
                return false;
            }
            if (t.mark != mark || minutes != minutesTold) {
                mark = t.mark;
                minutes = minutesTold;
                first = NONE;
                for (int a = 0; a < t.places; a++) {
                    for (int b = a + 1; b < t.places; b++) {
                        if (!t.hasLane(a, b)) {
                            weighLane(t, a, b, game, trial);
                        }
                    }
                }
            }
            return first != NONE;
        }

        /** Most lanes leave the ways between cellars as they are: then nothing is worked out anew. */
        private void weighLane(Town t, int a, int b, Game game, Game trial) {
            t.widen(a, b, minutes, wider);
            Game played = game;
            if (isShorter(t)) {
                played = trial;
                if (!trial.settle(wider, t.cellarsAway())) {
                    return;
                }
            }
            if (first == NONE || isLess(played.above, played.below, above, below)) {
                first = a;
                second = b;
                above = played.above;
                below = played.below;
            }
        }

        private boolean isShorter(Town t) {
            int met = t.cellars | 1;
            for (int a = 0; a < t.places; a++) {
                for (int b = 0; b < t.places; b++) {
                    int i = a * MOST_PLACES + b;
                    if (isIn(met, a) && isIn(met, b) && wider[i] < t.ways[i]) {
                        return true;
                    }
                }
            }
            return false;
        }
    }

    /** Looks side by side: their order, and what is left and gained behind each. */
    private static final class Looks {
        private final int[] row;
        private final long[] leftAfter;
        private final long[] gainAfter;
        private final long[] parts;
        private final int[] done;
        private int count;

        private Looks() {
            row = new int[MOST_LOOKS];
            leftAfter = new long[MOST_LOOKS + 1];
            gainAfter = new long[MOST_LOOKS + 1];
            parts = new long[MOST_PLACES];
            done = new int[MOST_PLACES];
        }

        private void plan(Town t) {
            for (int a = 0; a < t.places; a++) {
                parts[a] = t.chance[a] * TWELVE_TO_8;
                done[a] = 0;
            }
            leftAfter[0] = t.all * TWELVE_TO_8;
            gainAfter[0] = 0;
            count = 0;
            for (int n = 0; n < MOST_LOOKS; n++) {
                int a = likeliest(t);
                if (a == NONE) {
                    return;
                }
                long finds = findsAt(t, a);
                row[n] = a;
                leftAfter[n + 1] = leftAfter[n] - finds;
                gainAfter[n + 1] = gainAfter[n] + t.prize * finds - t.dig[a] * leftAfter[n];
                parts[a] -= finds;
                done[a]++;
                count++;
            }
        }

        /** Exact: with at most 8 looks at a place, 12 goes into its parts before each of them. */
        private long findsAt(Town t, int a) {
            return parts[a] / TWELVE * t.dog[a];
        }

        private int likeliest(Town t) {
            int best = NONE;
            for (int a = 0; a < t.places; a++) {
                if (t.chance[a] > 0 && done[a] < LOOKS_AT_ONE) {
                    if (best == NONE || findsAt(t, a) * t.dig[best] > findsAt(t, best) * t.dig[a]) {
                        best = a;
                    }
                }
            }
            return best;
        }

        private int greatestGain() {
            int best = 0;
            for (int n = 1; n <= count; n++) {
                if (gainAfter[n] > gainAfter[best]) {
                    best = n;
                }
            }
            return best;
        }
    }

    /** A barrel that moves by night. */
    private static final class Nights {
        /** In twelfths: from the second place to the first. */
        private final int[] moves;
        /** A row of places for each day: how likely it lies there in the morning, unfound. */
        private final long[] lies;
        /** The same behind a night, as if nobody had looked that day. */
        private final long[] spread;
        private final long[] foundBefore;
        private final int[] row;
        private final int[] bestRow;
        private final long[] now;
        private final long[] evening;
        private long most;
        private int mark;
        private int days;

        private Nights() {
            moves = new int[PAIRS];
            lies = new long[MOST_DAYS * MOST_PLACES];
            spread = new long[MOST_DAYS * MOST_PLACES];
            foundBefore = new long[MOST_DAYS];
            row = new int[MOST_DAYS];
            bestRow = new int[MOST_DAYS];
            now = new long[MOST_PLACES];
            evening = new long[MOST_PLACES];
        }

        private void fillMoves(Town t) {
            for (int a = 0; a < t.places; a++) {
                for (int b = 0; b < t.places; b++) {
                    moves[a * MOST_PLACES + b] = t.hasLane(a, b) ? t.move : 0;
                }
                moves[a * MOST_PLACES + a] = TWELVE - t.move * t.lanesAt(a);
            }
        }

        /** All rows of days but the last, the least first; the last day's place follows from them. */
        private void plan(Town t, int daysTold) {
            if (t.mark == mark && days == daysTold) {
                return;
            }
            mark = t.mark;
            days = daysTold;
            most = NONE;
            fillMoves(t);
            Arrays.fill(row, 0);
            for (int a = 0; a < t.places; a++) {
                lies[a] = t.chance[a];
            }
            foundBefore[0] = 0;
            spreadOut(t, 0);
            int changed = 0;
            for (int i = 0; i < MOST_STEPS && changed >= 0; i++) {
                for (int day = changed; day < days - 1; day++) {
                    passDay(t, day);
                }
                judgeLastDay(t);
                changed = turnRow(t);
            }
        }

        /** The next row of the days before the last; which day is the first that changed. */
        private int turnRow(Town t) {
            for (int day = days - 2; day >= 0; day--) {
                row[day]++;
                if (row[day] < t.places) {
                    return day;
                }
                row[day] = 0;
            }
            return NONE;
        }

        private void spreadOut(Town t, int day) {
            for (int a = 0; a < t.places; a++) {
                long sum = 0;
                for (int b = 0; b < t.places; b++) {
                    sum += moves[a * MOST_PLACES + b] * lies[day * MOST_PLACES + b];
                }
                spread[day * MOST_PLACES + a] = sum * TWELVE;
            }
        }

        /** A look takes away from one place alone, so the night behind it differs by one column. */
        private void passDay(Town t, int day) {
            int place = row[day];
            long finds = lies[day * MOST_PLACES + place] * t.dog[place];
            foundBefore[day + 1] = (foundBefore[day] + finds * TWELVE) * TWELVE * TWELVE;
            for (int a = 0; a < t.places; a++) {
                lies[(day + 1) * MOST_PLACES + a] =
                        spread[day * MOST_PLACES + a] - moves[a * MOST_PLACES + place] * finds;
            }
            if (day + 1 < days - 1) {
                spreadOut(t, day + 1);
            }
        }

        private void judgeLastDay(Town t) {
            int day = days - 1;
            for (int a = 0; a < t.places; a++) {
                long finds = lies[day * MOST_PLACES + a] * t.dog[a];
                if (foundBefore[day] + finds * TWELVE > most) {
                    most = foundBefore[day] + finds * TWELVE;
                    row[day] = a;
                    System.arraycopy(row, 0, bestRow, 0, days);
                }
            }
        }

        private void readDiary(Town t) {
            fillMoves(t);
            for (int a = 0; a < t.places; a++) {
                now[a] = t.chance[a];
            }
            for (int day = 0; day < t.days && day < MOST_DIARY; day++) {
                if (day > 0) {
                    passNight(t);
                }
                for (int a = 0; a < t.places; a++) {
                    now[a] *= a == t.diary[day] ? TWELVE - t.dog[a] : TWELVE;
                }
            }
        }

        private void passNight(Town t) {
            System.arraycopy(now, 0, evening, 0, MOST_PLACES);
            for (int a = 0; a < t.places; a++) {
                now[a] = 0;
                for (int b = 0; b < t.places; b++) {
                    now[a] += moves[a * MOST_PLACES + b] * evening[b];
                }
            }
        }

        private long sumNow(Town t) {
            long sum = 0;
            for (int a = 0; a < t.places; a++) {
                sum += now[a];
            }
            return sum;
        }

        private int likeliestNow(Town t) {
            int best = NONE;
            long greatest = 0;
            for (int a = 0; a < t.places; a++) {
                if (now[a] * t.dog[a] > greatest) {
                    greatest = now[a] * t.dog[a];
                    best = a;
                }
            }
            return best;
        }
    }

    /** A town that is a tree, by its branches: each with the lane that leads to it. */
    private static final class Tree {
        private final int[] parent;
        private final int[] branch;
        private long above;
        private long below;

        private Tree() {
            parent = new int[MOST_PLACES];
            branch = new int[MOST_PLACES];
        }

        private void grow(Town t) {
            for (int a = 0; a < t.places; a++) {
                parent[a] = parentOf(t, a);
                branch[a] = 0;
            }
            for (int a = 1; a < t.places; a++) {
                int lane = t.ways[a] - t.ways[parent[a]];
                int p = a;
                for (int i = 0; i < MOST_PLACES && p != 0; i++) {
                    branch[p] += lane;
                    p = parent[p];
                }
            }
        }

        private static int parentOf(Town t, int a) {
            for (int b = 0; b < t.places; b++) {
                if (t.hasLane(a, b) && t.ways[b] < t.ways[a]) {
                    return b;
                }
            }
            return 0;
        }

        private int branchesAt(Town t, int place) {
            int sum = 0;
            for (int a = 1; a < t.places; a++) {
                if (parent[a] == place) {
                    sum += branch[a];
                }
            }
            return sum;
        }

        private void weighEnd(Town t, int place) {
            boolean end = place != 0 && t.lanesAt(place) == 1;
            above = end ? 1 : 0;
            below = 1;
            int p = place;
            for (int i = 0; i < MOST_PLACES && p != 0 && end; i++) {
                above *= branch[p];
                below *= branchesAt(t, parent[p]);
                long common = commonDivisor(above, below);
                if (common > 1) {
                    above /= common;
                    below /= common;
                }
                p = parent[p];
            }
        }

        /**
         * Both rounds come to a place by its way; each branch that leaves the way is gone through,
         * there and back, in one of them before, in the other one behind.
         */
        private int twiceRound(Town t, int place) {
            int sum = 2 * t.ways[place];
            int p = place;
            for (int i = 0; i < MOST_PLACES && p != 0; i++) {
                sum += 2 * (branchesAt(t, parent[p]) - branch[p]);
                p = parent[p];
            }
            return sum;
        }
    }

    /** The places with an odd number of lanes, coupled with the fewest minutes. */
    private static final class Postman {
        private final int[] cost;
        private final int[] fellow;
        private int least;

        private Postman() {
            cost = new int[SETS];
            fellow = new int[MOST_PLACES];
        }

        private void couple(Town t) {
            int odd = 0;
            for (int a = 0; a < t.places; a++) {
                if ((t.lanesAt(a) & 1) == 1) {
                    odd |= 1 << a;
                }
            }
            cost[0] = 0;
            for (int set = 1; set <= odd; set++) {
                if ((set & ~odd) == 0 && (Integer.bitCount(set) & 1) == 0) {
                    cost[set] = costBy(t, set, fellowIn(t, set));
                }
            }
            least = cost[odd];
            Arrays.fill(fellow, NONE);
            int set = odd;
            for (int i = 0; i < MOST_PLACES && set != 0; i++) {
                int a = leastOf(set);
                int b = fellowIn(t, set);
                fellow[a] = b;
                fellow[b] = a;
                set &= ~(1 << a | 1 << b);
            }
        }

        /** The least fellow of the set's least place with which the whole set costs least. */
        private int fellowIn(Town t, int set) {
            int best = 0;
            int fewest = GREATEST;
            for (int b = leastOf(set) + 1; b < t.places; b++) {
                if (isIn(set, b) && costBy(t, set, b) < fewest) {
                    fewest = costBy(t, set, b);
                    best = b;
                }
            }
            return best;
        }

        private int costBy(Town t, int set, int b) {
            int a = leastOf(set);
            return t.ways[a * MOST_PLACES + b] + cost[set & ~(1 << a | 1 << b)];
        }
    }
}
