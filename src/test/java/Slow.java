import java.math.BigInteger;
import java.util.ArrayList;
import java.util.List;

/**
 * What the document's terms say, done word by word and slowly: every row, every part, every kernel.
 * It shares nothing with the class, so that the two can be held against one another.
 */
final class Slow {
    static final long UNTOLD = -1000000000000L;

    int places;
    int[][] lane = new int[8][8];
    int[] chance = new int[8];
    int[] dog = {12, 12, 12, 12, 12, 12, 12, 12};
    int[] dig = {1, 1, 1, 1, 1, 1, 1, 1};
    int prize;
    int move;

    // ---- the town ----

    int lanes() {
        int n = 0;
        for (int a = 0; a < places; a++) {
            for (int b = 0; b < a; b++) {
                n += lane[a][b] > 0 ? 1 : 0;
            }
        }
        return n;
    }

    int degree(int a) {
        int n = 0;
        for (int b = 0; b < places; b++) {
            n += lane[a][b] > 0 ? 1 : 0;
        }
        return n;
    }

    int all() {
        int n = 0;
        for (int a = 0; a < places; a++) {
            n += chance[a];
        }
        return n;
    }

    int cellarBits() {
        int n = 0;
        for (int a = 0; a < places; a++) {
            n += chance[a] > 0 ? 1 << a : 0;
        }
        return n;
    }

    List<Integer> cellarsAway() {
        List<Integer> list = new ArrayList<>();
        for (int a = 1; a < places; a++) {
            if (chance[a] > 0) {
                list.add(a);
            }
        }
        return list;
    }

    /** By so many rounds as there are places: whatever gets shorter by one lane more. */
    int way(int from, int to) {
        int[] best = new int[places];
        java.util.Arrays.fill(best, 1 << 20);
        best[from] = 0;
        for (int round = 0; round < places; round++) {
            for (int a = 0; a < places; a++) {
                for (int b = 0; b < places; b++) {
                    if (lane[a][b] > 0 && best[a] + lane[a][b] < best[b]) {
                        best[b] = best[a] + lane[a][b];
                    }
                }
            }
        }
        return best[to];
    }

    int[][] ways() {
        int[][] w = new int[places][places];
        for (int a = 0; a < places; a++) {
            for (int b = 0; b < places; b++) {
                w[a][b] = way(a, b);
            }
        }
        return w;
    }

    int allMinutes() {
        int n = 0;
        for (int a = 0; a < places; a++) {
            for (int b = 0; b < a; b++) {
                n += lane[a][b];
            }
        }
        return n;
    }

    String text() {
        StringBuilder s = new StringBuilder("places " + places + ";");
        for (int a = 0; a < places; a++) {
            for (int b = a + 1; b < places; b++) {
                if (lane[a][b] > 0) {
                    s.append("lane ").append(a).append(' ').append(b).append(' ').append(lane[a][b]).append(';');
                }
            }
        }
        for (int a = 0; a < places; a++) {
            if (chance[a] > 0) {
                s.append("chance ").append(a).append(' ').append(chance[a]).append(';');
            }
            if (dog[a] != 12) {
                s.append("dog ").append(a).append(' ').append(dog[a]).append(';');
            }
            if (dig[a] != 1) {
                s.append("dig ").append(a).append(' ').append(dig[a]).append(';');
            }
        }
        if (prize != 0) {
            s.append("prize ").append(prize).append(';');
        }
        if (move != 0) {
            s.append("move ").append(move).append(';');
        }
        return s.toString();
    }

    // ---- rows ----

    static List<int[]> rowsOf(List<Integer> members) {
        List<int[]> out = new ArrayList<>();
        permute(members, new ArrayList<>(), out);
        return out;
    }

    private static void permute(List<Integer> left, List<Integer> head, List<int[]> out) {
        if (left.isEmpty()) {
            out.add(head.stream().mapToInt(i -> i).toArray());
        }
        for (Integer i : left) {
            List<Integer> rest = new ArrayList<>(left);
            rest.remove(i);
            List<Integer> more = new ArrayList<>(head);
            more.add(i);
            permute(rest, more, out);
        }
    }

    static int found(int[][] w, int[] stops, int place) {
        int at = 0;
        int minute = 0;
        if (place == 0) {
            return 0;
        }
        for (int s : stops) {
            minute += w[at][s];
            at = s;
            if (s == place) {
                return minute;
            }
        }
        return -1;
    }

    int mean(int[][] w, int[] stops) {
        int sum = 0;
        for (int a = 0; a < places; a++) {
            if (chance[a] > 0) {
                int f = found(w, stops, a);
                if (f < 0) {
                    return -1;
                }
                sum += chance[a] * f;
            }
        }
        return sum;
    }

    /** The mean of such places alone, whatever else has a chance. */
    int meanOf(int[][] w, int[] stops) {
        int sum = 0;
        for (int s : stops) {
            sum += chance[s] * found(w, stops, s);
        }
        return sum;
    }

    int bestMean;
    int[] bestRow;

    void best(int[][] w, List<Integer> members) {
        bestRow = null;
        for (int[] row : rowsOf(members)) {
            int m = meanOf(w, row);
            if (bestRow == null || m < bestMean) {
                bestMean = m;
                bestRow = row;
            }
        }
    }

    int twoMean;
    int twoSet;

    void two() {
        int[][] w = ways();
        int goal = cellarBits() & ~1;
        twoMean = Integer.MAX_VALUE;
        int[] of = new int[256];
        for (int set = 0; set < 256; set++) {
            if ((set & goal) == set) {
                best(w, members(set));
                of[set] = bestMean;
            }
        }
        for (int set = 0; set < 256; set++) {
            if ((set & goal) == set && of[set] + of[goal - set] < twoMean) {
                twoMean = of[set] + of[goal - set];
                twoSet = set;
            }
        }
    }

    static List<Integer> members(int set) {
        List<Integer> list = new ArrayList<>();
        for (int a = 0; a < 8; a++) {
            if ((set >> a) % 2 == 1) {
                list.add(a);
            }
        }
        return list;
    }

    void barrels(boolean both) {
        int[][] w = ways();
        bestRow = null;
        for (int[] row : rowsOf(cellarsAway())) {
            int sum = 0;
            for (int a = 0; a < places; a++) {
                for (int b = 0; b < a; b++) {
                    if (chance[a] * chance[b] > 0) {
                        int f = found(w, row, a);
                        int g = found(w, row, b);
                        sum += chance[a] * chance[b] * (both ? Math.max(f, g) : Math.min(f, g));
                    }
                }
            }
            if (bestRow == null || sum < bestMean) {
                bestMean = sum;
                bestRow = row;
            }
        }
    }

    /** Mean then, and the lane's two places; null if there is none. */
    int[] more(int minutes) {
        int[] answer = null;
        for (int a = 0; a < places; a++) {
            for (int b = a + 1; b < places; b++) {
                if (lane[a][b] == 0) {
                    lane[a][b] = lane[b][a] = minutes;
                    best(ways(), cellarsAway());
                    lane[a][b] = lane[b][a] = 0;
                    if (answer == null || bestMean < answer[0]) {
                        answer = new int[] {bestMean, a, b};
                    }
                }
            }
        }
        return answer;
    }

    // ---- both by chances ----

    static final class Kernel {
        long d;
        long s;
        int k;
        long[] c = new long[8];
        List<Long> r = new ArrayList<>();
        List<Integer> rows = new ArrayList<>();
    }

    static long det(long[][] m) {
        if (m.length == 0) {
            return 1;
        }
        long sum = 0;
        for (int j = 0; j < m.length; j++) {
            sum += (j % 2 == 0 ? 1 : -1) * m[0][j] * det(minor(m, 0, j));
        }
        return sum;
    }

    static long[][] minor(long[][] m, int line, int column) {
        long[][] out = new long[m.length - 1][m.length - 1];
        for (int i = 0; i < out.length; i++) {
            for (int j = 0; j < out.length; j++) {
                out[i][j] = m[i < line ? i : i + 1][j < column ? j : j + 1];
            }
        }
        return out;
    }

    static List<int[]> picks(int n, int k) {
        List<int[]> out = new ArrayList<>();
        pick(n, k, 0, new ArrayList<>(), out);
        return out;
    }

    private static void pick(int n, int k, int from, List<Integer> head, List<int[]> out) {
        if (head.size() == k) {
            out.add(head.stream().mapToInt(i -> i).toArray());
            return;
        }
        for (int i = from; i < n; i++) {
            head.add(i);
            pick(n, k, i + 1, head, out);
            head.remove(head.size() - 1);
        }
    }

    Kernel kernel(int[][] w, List<Integer> away) {
        int n = away.size();
        if (n < 1 || n > 4) {
            return null;
        }
        List<int[]> rows = rowsOf(away);
        long[][] minutes = new long[n][rows.size()];
        for (int i = 0; i < n; i++) {
            for (int j = 0; j < rows.size(); j++) {
                minutes[i][j] = found(w, rows.get(j), away.get(i));
            }
        }
        for (int k = 1; k <= n; k++) {
            for (int[] cells : picks(n, k)) {
                for (int[] picked : picks(rows.size(), k)) {
                    Kernel found = judge(minutes, cells, picked, away);
                    if (found != null) {
                        return found;
                    }
                }
            }
        }
        throw new IllegalStateException("no kernel");
    }

    private static Kernel judge(long[][] minutes, int[] cells, int[] picked, List<Integer> away) {
        int k = cells.length;
        long[][] m = new long[k][k];
        for (int i = 0; i < k; i++) {
            for (int j = 0; j < k; j++) {
                m[i][j] = minutes[cells[i]][picked[j]];
            }
        }
        long[] c = new long[k];
        long[] r = new long[k];
        long s = 0;
        for (int i = 0; i < k; i++) {
            for (int j = 0; j < k; j++) {
                long cofactor = ((i + j) % 2 == 0 ? 1 : -1) * det(minor(m, i, j));
                c[i] += cofactor;
                r[j] += cofactor;
                s += cofactor;
            }
        }
        if (s == 0) {
            return null;
        }
        long sign = s > 0 ? 1 : -1;
        for (int i = 0; i < k; i++) {
            c[i] *= sign;
            r[i] *= sign;
            if (c[i] < 0 || r[i] < 0) {
                return null;
            }
        }
        long d = det(m) * sign;
        s *= sign;
        for (int cell = 0; cell < minutes.length; cell++) {
            long worth = 0;
            for (int j = 0; j < k; j++) {
                worth += r[j] * minutes[cell][picked[j]];
            }
            if (worth > d) {
                return null;
            }
        }
        for (int row = 0; row < minutes[0].length; row++) {
            long worth = 0;
            for (int i = 0; i < k; i++) {
                worth += c[i] * minutes[cells[i]][row];
            }
            if (worth < d) {
                return null;
            }
        }
        Kernel found = new Kernel();
        found.d = d;
        found.s = s;
        found.k = k;
        for (int i = 0; i < k; i++) {
            found.c[away.get(cells[i])] = c[i];
            found.r.add(r[i]);
            found.rows.add(picked[i]);
        }
        return found;
    }

    static boolean below(long a, long b, long c, long d) {
        return BigInteger.valueOf(a).multiply(BigInteger.valueOf(d))
                .compareTo(BigInteger.valueOf(c).multiply(BigInteger.valueOf(b))) < 0;
    }

    /** The cellar, D, S; null if it can't be told. */
    long[] guard() {
        List<Integer> away = cellarsAway();
        if (away.size() < 1 || away.size() > 4) {
            return null;
        }
        long[] answer = null;
        int[][] w = ways();
        for (Integer a : away) {
            List<Integer> rest = new ArrayList<>(away);
            rest.remove(a);
            Kernel k = kernel(w, rest);
            long d = k == null ? 0 : k.d;
            long s = k == null ? 1 : k.s;
            if (answer == null || below(d, s, answer[1], answer[2])) {
                answer = new long[] {a, d, s};
            }
        }
        return answer;
    }

    /** Two places, D, S; null if it can't be told. */
    long[] open(int minutes) {
        List<Integer> away = cellarsAway();
        if (away.size() < 1 || away.size() > 4) {
            return null;
        }
        long[] answer = null;
        for (int a = 0; a < places; a++) {
            for (int b = a + 1; b < places; b++) {
                if (lane[a][b] == 0) {
                    lane[a][b] = lane[b][a] = minutes;
                    Kernel k = kernel(ways(), away);
                    lane[a][b] = lane[b][a] = 0;
                    if (answer == null || below(k.d, k.s, answer[2], answer[3])) {
                        answer = new long[] {a, b, k.d, k.s};
                    }
                }
            }
        }
        return answer;
    }

    // ---- trees ----

    boolean tree() {
        return lanes() == places - 1;
    }

    private int length(int from, int to) {
        int sum = lane[from][to];
        for (int b = 0; b < places; b++) {
            if (b != from && lane[to][b] > 0) {
                sum += length(to, b);
            }
        }
        return sum;
    }

    /** Of each place above and below the line. */
    long[][] density() {
        long[][] out = new long[places][2];
        for (long[] o : out) {
            o[1] = 1;
        }
        spread(-1, 0, BigInteger.ONE, BigInteger.ONE, out);
        return out;
    }

    private void spread(int from, int at, BigInteger above, BigInteger below, long[][] out) {
        int sum = 0;
        for (int b = 0; b < places; b++) {
            if (b != from && lane[at][b] > 0) {
                sum += length(at, b);
            }
        }
        if (sum == 0) {
            BigInteger g = above.gcd(below);
            out[at][0] = above.divide(g).longValueExact();
            out[at][1] = below.divide(g).longValueExact();
        }
        for (int b = 0; b < places; b++) {
            if (b != from && lane[at][b] > 0) {
                spread(at, b, above.multiply(BigInteger.valueOf(length(at, b))),
                        below.multiply(BigInteger.valueOf(sum)), out);
            }
        }
    }

    int[] rounds() {
        int[] out = new int[places];
        for (int way = 0; way < 2; way++) {
            List<Integer> tour = new ArrayList<>();
            go(-1, 0, tour);
            if (way == 1) {
                java.util.Collections.reverse(tour);
            }
            int[] first = new int[places];
            java.util.Arrays.fill(first, -1);
            int minute = 0;
            for (int i = 0; i < tour.size(); i++) {
                if (i > 0) {
                    minute += lane[tour.get(i - 1)][tour.get(i)];
                }
                if (first[tour.get(i)] < 0) {
                    first[tour.get(i)] = minute;
                }
            }
            for (int a = 0; a < places; a++) {
                out[a] += first[a];
            }
        }
        return out;
    }

    private void go(int from, int at, List<Integer> tour) {
        tour.add(at);
        for (int b = 0; b < places; b++) {
            if (b != from && lane[at][b] > 0) {
                go(at, b, tour);
                tour.add(at);
            }
        }
    }

    int[] fellow;
    int fewest;

    int postman() {
        fewest = Integer.MAX_VALUE;
        int[] with = new int[places];
        for (int a = 0; a < places; a++) {
            with[a] = degree(a) % 2 == 0 ? -1 : -2;
        }
        match(ways(), with, 0);
        return allMinutes() + fewest;
    }

    private void match(int[][] w, int[] with, int sum) {
        int a = 0;
        while (a < places && with[a] != -2) {
            a++;
        }
        if (a == places) {
            if (sum < fewest) {
                fewest = sum;
                fellow = with.clone();
            }
            return;
        }
        for (int b = a + 1; b < places; b++) {
            if (with[b] == -2) {
                with[a] = b;
                with[b] = a;
                match(w, with, sum + w[a][b]);
                with[a] = -2;
                with[b] = -2;
            }
        }
    }

    // ---- looks ----

    static BigInteger big(long n) {
        return BigInteger.valueOf(n);
    }

    List<Integer> order() {
        List<Integer> out = new ArrayList<>();
        int[] done = new int[places];
        while (true) {
            int best = -1;
            BigInteger up = null;
            BigInteger down = null;
            for (int a = 0; a < places; a++) {
                if (chance[a] > 0 && done[a] < 8) {
                    BigInteger u = big(chance[a]).multiply(big(dog[a])).multiply(big(12 - dog[a]).pow(done[a]));
                    BigInteger v = big(12).pow(done[a] + 1).multiply(big(dig[a]));
                    if (best < 0 || u.multiply(down).compareTo(up.multiply(v)) > 0) {
                        best = a;
                        up = u;
                        down = v;
                    }
                }
            }
            if (best < 0) {
                return out;
            }
            done[best]++;
            out.add(best);
        }
    }

    long left(List<Integer> order, int n) {
        BigInteger sum = BigInteger.ZERO;
        for (int a = 0; a < places; a++) {
            int looks = 0;
            for (int i = 0; i < n && i < order.size(); i++) {
                looks += order.get(i) == a ? 1 : 0;
            }
            sum = sum.add(big(chance[a]).multiply(big(12 - dog[a]).pow(looks)).multiply(big(12).pow(8 - looks)));
        }
        return sum.longValueExact();
    }

    long gain(List<Integer> order, int n) {
        int m = Math.min(n, order.size());
        long sum = prize * (left(order, 0) - left(order, m));
        for (int i = 0; i < m; i++) {
            sum -= dig[order.get(i)] * left(order, i);
        }
        return sum;
    }

    int leave(List<Integer> order) {
        int best = 0;
        for (int n = 1; n <= 64; n++) {
            if (gain(order, n) > gain(order, best)) {
                best = n;
            }
        }
        return best;
    }

    // ---- nights ----

    private long[] night(long[] v) {
        long[] out = new long[places];
        for (int a = 0; a < places; a++) {
            for (int b = 0; b < places; b++) {
                if (a != b && lane[a][b] > 0) {
                    out[b] += v[a] * move;
                }
            }
            out[a] += v[a] * (12 - move * degree(a));
        }
        return out;
    }

    int[] chaseRow;
    long chaseFound;

    void chase(int days) {
        chaseFound = -1;
        int[] row = new int[days];
        int n = 1;
        for (int i = 0; i < days; i++) {
            n *= places;
        }
        for (int i = 0; i < n; i++) {
            int rest = i;
            for (int d = days - 1; d >= 0; d--) {
                row[d] = rest % places;
                rest /= places;
            }
            long[] v = new long[places];
            for (int a = 0; a < places; a++) {
                v[a] = chance[a];
            }
            long found = 0;
            for (int d = 0; d < days; d++) {
                long scale = 12;
                for (int e = d + 1; e < days; e++) {
                    scale *= 144;
                }
                found += v[row[d]] * dog[row[d]] * scale;
                for (int a = 0; a < places; a++) {
                    v[a] *= a == row[d] ? 12 - dog[a] : 12;
                }
                v = night(v);
            }
            if (found > chaseFound) {
                chaseFound = found;
                chaseRow = row.clone();
            }
        }
    }

    /** Fractions over one line: how likely it lies at each place behind such a diary. */
    BigInteger[] behind(List<Integer> diary) {
        BigInteger[] v = new BigInteger[places];
        for (int a = 0; a < places; a++) {
            v[a] = big(chance[a]);
        }
        for (int d = 0; d < diary.size(); d++) {
            if (d > 0) {
                BigInteger[] w = new BigInteger[places];
                for (int a = 0; a < places; a++) {
                    w[a] = v[a].multiply(big(12 - move * degree(a)));
                    for (int b = 0; b < places; b++) {
                        if (lane[b][a] > 0) {
                            w[a] = w[a].add(v[b].multiply(big(move)));
                        }
                    }
                }
                v = w;
            }
            for (int a = 0; a < places; a++) {
                v[a] = v[a].multiply(big(a == diary.get(d) ? 12 - dog[a] : 12));
            }
        }
        return v;
    }

    // ---- bell, box, search ----

    int[] bellRow;
    int bellSmell;
    int bellMinutes;
    int bellSet;

    void bell(int minutes) {
        bellRow = null;
        int[][] w = ways();
        for (int set = 0; set < 256; set++) {
            if ((set & cellarBits()) == set) {
                for (int[] row : rowsOf(members(set))) {
                    int spent = 0;
                    int smell = 0;
                    int at = 0;
                    for (int a : row) {
                        spent += w[at][a] + dig[a];
                        smell += chance[a] * dog[a];
                        at = a;
                    }
                    boolean better = bellRow == null || smell > bellSmell || smell == bellSmell && spent < bellMinutes;
                    if (spent <= minutes && better) {
                        bellRow = row;
                        bellSmell = smell;
                        bellMinutes = spent;
                        bellSet = set;
                    }
                }
            }
        }
    }

    int right(int h, int set) {
        int in = 0;
        int not = 0;
        for (int a = 0; a < places; a++) {
            boolean named = (set >> a) % 2 == 1;
            in = Math.max(in, chance[a] * (named ? h : 12 - h));
            not = Math.max(not, chance[a] * (named ? 12 - h : h));
        }
        return in + not;
    }

    int box(int h) {
        int best = 0;
        for (int set = 0; set < 1 << places; set++) {
            if (right(h, set) > right(h, best)) {
                best = set;
            }
        }
        return best;
    }

    /** Where it lies, in which look it is found, minutes, looks there that found nothing. */
    int[] search(int looks, int seed) {
        long x = seed & 0xffffffffL;
        x = (x * 1103515245L + 12345L) & 0xffffffffL;
        int number = (int) (x >> 16 & 32767) % all();
        int lies = 0;
        int sum = chance[0];
        while (sum <= number) {
            lies++;
            sum += chance[lies];
        }
        int minutes = 0;
        int misses = 0;
        List<Integer> order = order();
        for (int i = 0; i < Math.min(looks, order.size()); i++) {
            minutes += dig[order.get(i)];
            if (order.get(i) == lies) {
                x = (x * 1103515245L + 12345L) & 0xffffffffL;
                if ((x >> 16 & 32767) % 12 < dog[lies]) {
                    return new int[] {lies, i + 1, minutes, misses};
                }
                misses++;
            }
        }
        return new int[] {lies, 0, minutes, misses};
    }
}
