import java.util.ArrayList;
import java.util.Arrays;
import java.util.Collections;
import java.util.HashMap;
import java.util.List;
import java.util.Map;
import java.util.TreeSet;

/**
 * The document once more, as slow and plain as its words, by other ways than the program's:
 * all orders are tried where that is possible, pairs are booleans, sums are written out.
 */
final class Reference {
    private static final int TRY_ALL_ORDERS = 6;

    int n = 1;
    int p = 32749;
    int[][] number = new int[24][24];
    boolean[] held = new boolean[24];
    int[] right = new int[24];
    List<Integer> row = new ArrayList<>(List.of(0));
    List<Integer> gone = new ArrayList<>();
    int worked = 0;
    int stuck = -9;
    long[] pivots = new long[24];
    long[][] ones = new long[24][24];
    int[] refusals = new int[7];

    private int refuse(int answer) {
        refusals[-answer]++;
        return answer;
    }

    private boolean none(int u) {
        return u < 0 || u >= n;
    }

    private int modulo(long v) {
        return (int) (((v % p) + p) % p);
    }

    private void unwork() {
        worked = 0;
        stuck = -9;
    }

    int table(int count, int prime) {
        if (count < 1) {
            return refuse(-4);
        }
        if (prime < 2) {
            return refuse(-4);
        }
        if (count > 24) {
            return refuse(-6);
        }
        if (prime > 32749) {
            return refuse(-6);
        }
        for (int d = 2; d < prime; d++) {
            if (prime % d == 0) {
                return refuse(-2);
            }
        }
        n = count;
        p = prime;
        number = new int[24][24];
        held = new boolean[24];
        right = new int[24];
        row = new ArrayList<>();
        for (int u = 0; u < n; u++) {
            row.add(u);
        }
        gone.clear();
        unwork();
        return 1;
    }

    int put(int u, int w, int v) {
        if (none(u) || none(w)) {
            return refuse(-1);
        }
        int before = number[u][w];
        number[u][w] = modulo(v);
        number[w][u] = modulo(v);
        gone.clear();
        unwork();
        return before;
    }

    int number(int u, int w) {
        return none(u) || none(w) ? refuse(-1) : number[u][w];
    }

    boolean hold(int u, boolean on) {
        if (none(u) || held[u] == on) {
            return false;
        }
        held[u] = on;
        return true;
    }

    private boolean[][] joins() {
        boolean[][] joined = new boolean[n][n];
        for (int u = 0; u < n; u++) {
            for (int w = 0; w < n; w++) {
                joined[u][w] = u != w && number[u][w] != 0;
            }
        }
        return joined;
    }

    private List<Integer> neighbours(boolean[][] joined, List<Integer> out, int u) {
        List<Integer> result = new ArrayList<>();
        for (int w = 0; w < n; w++) {
            if (w != u && joined[u][w] && !out.contains(w)) {
                result.add(w);
            }
        }
        return result;
    }

    private List<Integer> missing(boolean[][] joined, List<Integer> out, int u) {
        List<Integer> result = new ArrayList<>();
        List<Integer> around = neighbours(joined, out, u);
        for (int a : around) {
            for (int b : around) {
                if (a < b && !joined[a][b]) {
                    result.add(32 * a + b);
                }
            }
        }
        return result;
    }

    private static void join(boolean[][] joined, List<Integer> pairs) {
        for (int pair : pairs) {
            joined[pair / 32][pair % 32] = true;
            joined[pair % 32][pair / 32] = true;
        }
    }

    private List<Integer> fillsOf(List<Integer> order, boolean[][] joined) {
        List<Integer> all = new ArrayList<>();
        List<Integer> out = new ArrayList<>();
        for (int u : order) {
            List<Integer> pairs = missing(joined, out, u);
            join(joined, pairs);
            all.addAll(pairs);
            out.add(u);
        }
        return all;
    }

    private List<Integer> fillsOf(List<Integer> order) {
        return fillsOf(order, joins());
    }

    private boolean[][] fullNet(List<Integer> order) {
        boolean[][] joined = joins();
        fillsOf(order, joined);
        return joined;
    }

    private List<Integer> behind(List<Integer> order, int u) {
        boolean[][] joined = fullNet(order);
        List<Integer> result = new ArrayList<>();
        for (int i = order.indexOf(u) + 1; i < n; i++) {
            if (joined[u][order.get(i)]) {
                result.add(order.get(i));
            }
        }
        return result;
    }

    private int widthOf(List<Integer> order) {
        boolean[][] joined = fullNet(order);
        int most = 0;
        for (int i = 0; i < n; i++) {
            int count = 0;
            for (int k = i + 1; k < n; k++) {
                count += joined[order.get(i)][order.get(k)] ? 1 : 0;
            }
            most = Math.max(most, count);
        }
        return most;
    }

    private boolean anyHeld() {
        for (int u = 0; u < n; u++) {
            if (held[u]) {
                return true;
            }
        }
        return false;
    }

    int order(int rule) {
        if (rule < 0 || rule > 6) {
            return refuse(-2);
        }
        if ((rule == 3 || rule == 4 || rule == 5) && anyHeld()) {
            return refuse(-5);
        }
        if ((rule == 4 || rule == 5) && n > 12) {
            return refuse(-6);
        }
        if (rule <= 2) {
            row = stepByStep(rule);
        } else if (rule == 3) {
            row = search();
        } else if (rule == 6) {
            Collections.reverse(row);
        } else {
            row = firstBest(rule == 5);
        }
        unwork();
        return fillsOf(row).size();
    }

    private List<Integer> stepByStep(int rule) {
        boolean[][] joined = joins();
        List<Integer> out = new ArrayList<>();
        while (out.size() < n) {
            boolean othersLeft = false;
            for (int u = 0; u < n; u++) {
                othersLeft |= !held[u] && !out.contains(u);
            }
            int best = -1;
            int least = 0;
            for (int u = n - 1; u >= 0; u--) {
                if (out.contains(u) || held[u] && othersLeft) {
                    continue;
                }
                int cost = rule == 0 ? u : rule == 1 ? neighbours(joined, out, u).size() : missing(joined, out, u).size();
                if (best < 0 || cost <= least) {
                    best = u;
                    least = cost;
                }
            }
            join(joined, missing(joined, out, best));
            out.add(best);
        }
        return out;
    }

    private List<Integer> search() {
        List<Integer> fromEnd = new ArrayList<>(List.of(0));
        boolean[][] joined = joins();
        while (fromEnd.size() < n) {
            int best = -1;
            int most = -1;
            for (int u = n - 1; u >= 0; u--) {
                int count = 0;
                for (int w : fromEnd) {
                    count += joined[u][w] ? 1 : 0;
                }
                if (!fromEnd.contains(u) && count >= most) {
                    best = u;
                    most = count;
                }
            }
            fromEnd.add(best);
        }
        Collections.reverse(fromEnd);
        return fromEnd;
    }

    /** In the order of the first place in which they differ. */
    private List<List<Integer>> allOrders() {
        List<List<Integer>> result = new ArrayList<>();
        addOrders(new ArrayList<>(), result);
        return result;
    }

    private void addOrders(List<Integer> ahead, List<List<Integer>> result) {
        if (ahead.size() == n) {
            result.add(new ArrayList<>(ahead));
            return;
        }
        for (int u = 0; u < n; u++) {
            if (!ahead.contains(u)) {
                ahead.add(u);
                addOrders(ahead, result);
                ahead.remove(ahead.size() - 1);
            }
        }
    }

    private int cost(List<Integer> order, boolean byWidth) {
        return byWidth ? widthOf(order) : fillsOf(order).size();
    }

    private List<Integer> firstBest(boolean byWidth) {
        if (n > TRY_ALL_ORDERS) {
            return firstBestBySets(byWidth);
        }
        List<Integer> best = null;
        for (List<Integer> order : allOrders()) {
            if (best == null || cost(order, byWidth) < cost(best, byWidth)) {
                best = order;
            }
        }
        return best;
    }

    /** What u is JOINED with when those of the set are OUT: those it reaches through the set alone. */
    private int reach(boolean[][] joined, int set, int u) {
        int seen = 1 << u;
        List<Integer> todo = new ArrayList<>(List.of(u));
        while (!todo.isEmpty()) {
            int v = todo.remove(0);
            for (int w = 0; w < n; w++) {
                if (joined[v][w] && (seen >> w & 1) == 0) {
                    seen |= 1 << w;
                    if ((set >> w & 1) == 1) {
                        todo.add(w);
                    }
                }
            }
        }
        return seen & ~set & ~(1 << u);
    }

    private int fillsAt(boolean[][] joined, int set, int u) {
        int around = reach(joined, set, u);
        int count = 0;
        for (int a = 0; a < n; a++) {
            for (int b = a + 1; b < n; b++) {
                boolean both = (around >> a & 1) == 1 && (around >> b & 1) == 1;
                count += both && (reach(joined, set, a) >> b & 1) == 0 ? 1 : 0;
            }
        }
        return count;
    }

    private int restOf(boolean[][] joined, int set, boolean byWidth, Map<Integer, Integer> known) {
        if (set == (1 << n) - 1) {
            return 0;
        }
        Integer before = known.get(set);
        if (before != null) {
            return before;
        }
        int best = Integer.MAX_VALUE;
        for (int u = 0; u < n; u++) {
            if ((set >> u & 1) == 0) {
                int rest = restOf(joined, set | 1 << u, byWidth, known);
                best = Math.min(best, byWidth ? Math.max(rest, Integer.bitCount(reach(joined, set, u)))
                        : rest + fillsAt(joined, set, u));
            }
        }
        known.put(set, best);
        return best;
    }

    private List<Integer> firstBestBySets(boolean byWidth) {
        boolean[][] joined = joins();
        Map<Integer, Integer> known = new HashMap<>();
        int goal = restOf(joined, 0, byWidth, known);
        List<Integer> order = new ArrayList<>();
        int set = 0;
        int sofar = 0;
        while (order.size() < n) {
            for (int u = 0; u < n; u++) {
                if ((set >> u & 1) == 1) {
                    continue;
                }
                int rest = restOf(joined, set | 1 << u, byWidth, known);
                int then = byWidth ? Math.max(sofar, Integer.bitCount(reach(joined, set, u)))
                        : sofar + fillsAt(joined, set, u);
                if ((byWidth ? Math.max(then, rest) : then + rest) == goal) {
                    sofar = then;
                    set |= 1 << u;
                    order.add(u);
                    break;
                }
            }
        }
        return order;
    }

    int swap(int i, int k) {
        if (none(i) || none(k)) {
            return refuse(-1);
        }
        Collections.swap(row, i, k);
        unwork();
        return 1;
    }

    int at(int i) {
        return none(i) ? refuse(-1) : row.get(i);
    }

    int fills() {
        return fillsOf(row).size();
    }

    int fill(int i) {
        List<Integer> all = fillsOf(row);
        return i < 0 || i >= all.size() ? -9 : all.get(i);
    }

    private int parent(int u) {
        List<Integer> later = behind(row, u);
        return later.isEmpty() ? -9 : later.get(0);
    }

    private int height(int u) {
        int above = parent(u);
        return above < 0 ? 0 : 1 + height(above);
    }

    private static int bits(List<Integer> those) {
        int result = 0;
        for (int u : those) {
            result += 1 << u;
        }
        return result;
    }

    int column(int u, int what) {
        if (none(u)) {
            return refuse(-1);
        }
        switch (what) {
            case 0: return row.indexOf(u);
            case 1: return behind(row, u).size();
            case 2: return parent(u);
            case 3: return bits(behind(row, u));
            case 4: return height(u);
            case 5:
                int children = 0;
                for (int w = 0; w < n; w++) {
                    children += parent(w) == u ? 1 : 0;
                }
                return children;
            default: return -9;
        }
    }

    int width() {
        return widthOf(row);
    }

    /** Sets each two of which are joined, grown one by one, kept if nobody fits any more. */
    private void grow(boolean[][] joined, int set, int from, TreeSet<Integer> found) {
        boolean more = false;
        for (int u = 0; u < n; u++) {
            boolean fits = (set >> u & 1) == 0;
            for (int w = 0; w < n; w++) {
                fits &= (set >> w & 1) == 0 || w != u && joined[u][w];
            }
            if (fits) {
                more = true;
                if (u >= from) {
                    grow(joined, set | 1 << u, u + 1, found);
                }
            }
        }
        if (!more) {
            found.add(set);
        }
    }

    int group(int i) {
        TreeSet<Integer> found = new TreeSet<>();
        grow(fullNet(row), 0, 0, found);
        List<Integer> all = new ArrayList<>(found);
        return i < 0 || i >= all.size() ? -9 : all.get(i);
    }

    boolean isClean() {
        if (n <= TRY_ALL_ORDERS) {
            for (List<Integer> order : allOrders()) {
                if (fillsOf(order).isEmpty()) {
                    return true;
                }
            }
            return false;
        }
        boolean[][] joined = joins();
        List<Integer> out = new ArrayList<>();
        for (int turn = 0; turn < n; turn++) {
            for (int u = 0; u < n; u++) {
                if (!out.contains(u) && missing(joined, out, u).isEmpty()) {
                    out.add(u);
                }
            }
        }
        return out.size() == n;
    }

    int ring() {
        boolean[][] joined = joins();
        int best = Integer.MAX_VALUE;
        for (int u = 0; u < n; u++) {
            best = Math.min(best, close(joined, new ArrayList<>(List.of(u)), best));
        }
        return best == Integer.MAX_VALUE ? 0 : best;
    }

    private int close(boolean[][] joined, List<Integer> path, int best) {
        int last = path.get(path.size() - 1);
        for (int w = 0; w < n && path.size() < best; w++) {
            if (!joined[last][w] || path.contains(w)) {
                continue;
            }
            boolean across = false;
            for (int i = 1; i < path.size() - 1; i++) {
                across |= joined[path.get(i)][w];
            }
            if (across) {
                continue;
            }
            if (path.size() > 1 && joined[path.get(0)][w]) {
                best = path.size() + 1 >= 4 ? Math.min(best, path.size() + 1) : best;
                continue;
            }
            path.add(w);
            best = Math.min(best, close(joined, path, best));
            path.remove(path.size() - 1);
        }
        return best;
    }

    int least(int what) {
        if (what < 0 || what > 1) {
            return refuse(-2);
        }
        if (n > 12) {
            return refuse(-6);
        }
        return cost(firstBest(what == 1), what == 1);
    }

    int begin() {
        gone.clear();
        return n;
    }

    private boolean[][] goingJoins() {
        boolean[][] joined = joins();
        List<Integer> out = new ArrayList<>();
        for (int u : gone) {
            join(joined, missing(joined, out, u));
            out.add(u);
        }
        return joined;
    }

    int out(int u) {
        if (none(u)) {
            return refuse(-1);
        }
        if (gone.contains(u)) {
            return refuse(-3);
        }
        int count = missing(goingJoins(), gone, u).size();
        gone.add(u);
        return count;
    }

    private int kind(int u) {
        boolean[][] joined = goingJoins();
        boolean freeLeft = false;
        for (int w = 0; w < n; w++) {
            freeLeft |= !held[w] && !gone.contains(w);
        }
        if (held[u] && freeLeft) {
            return 4;
        }
        List<Integer> mine = neighbours(joined, gone, u);
        if (mine.isEmpty()) {
            return 3;
        }
        for (int w : mine) {
            List<Integer> without = new ArrayList<>(mine);
            without.remove(Integer.valueOf(w));
            List<Integer> theirs = neighbours(joined, gone, w);
            theirs.remove(Integer.valueOf(u));
            if (w < u && without.equals(theirs)) {
                return 2;
            }
        }
        return missing(joined, gone, u).isEmpty() ? 1 : 0;
    }

    int going(int u, int what) {
        if (none(u)) {
            return refuse(-1);
        }
        if (gone.contains(u)) {
            return refuse(-3);
        }
        switch (what) {
            case 0: return kind(u);
            case 1: return neighbours(goingJoins(), gone, u).size();
            case 2: return bits(neighbours(goingJoins(), gone, u));
            case 3: return missing(goingJoins(), gone, u).size();
            default: return -9;
        }
    }

    int back() {
        return gone.isEmpty() ? -9 : gone.remove(gone.size() - 1);
    }

    private long divided(long a, long b) {
        for (long q = 0; q < p; q++) {
            if (q * b % p == a) {
                return q;
            }
        }
        throw new IllegalStateException("no quotient");
    }

    private long lessSum(int w, int u, int place) {
        long rest = number[w][u];
        for (int i = 0; i < place; i++) {
            int v = row.get(i);
            if (pivots[v] != 0) {
                rest = modulo(rest - ones[w][v] * ones[u][v] % p * pivots[v]);
            }
        }
        return rest;
    }

    int work() {
        unwork();
        pivots = new long[24];
        ones = new long[24][24];
        for (int i = 0; i < n; i++) {
            int u = row.get(i);
            pivots[u] = lessSum(u, u, i);
            for (int k = i + 1; k < n; k++) {
                int w = row.get(k);
                long rest = lessSum(w, u, i);
                if (pivots[u] == 0 && rest != 0) {
                    stuck = u;
                    return worked;
                }
                ones[w][u] = pivots[u] == 0 ? 0 : divided(rest, pivots[u]);
            }
            ones[u][u] = 1;
            worked++;
        }
        return worked;
    }

    private boolean isWorked(int u) {
        return row.indexOf(u) < worked;
    }

    int pivot(int u) {
        if (none(u)) {
            return refuse(-1);
        }
        if (u == stuck) {
            return 0;
        }
        return isWorked(u) ? (int) pivots[u] : refuse(-5);
    }

    int one(int u, int v) {
        if (none(u) || none(v)) {
            return refuse(-1);
        }
        return isWorked(v) ? (int) ones[u][v] : refuse(-5);
    }

    int worth() {
        if (worked < n) {
            return refuse(-5);
        }
        long result = 1;
        for (int u = 0; u < n; u++) {
            result = result * pivots[u] % p;
        }
        return (int) result;
    }

    int side(int u, int v) {
        if (none(u)) {
            return refuse(-1);
        }
        int before = right[u];
        right[u] = modulo(v);
        return before;
    }

    private boolean cannotSolve() {
        if (worked < n) {
            return true;
        }
        for (int u = 0; u < n; u++) {
            if (pivots[u] == 0) {
                return true;
            }
        }
        return false;
    }

    /** By rows of the TABLE itself, not by the WORK. */
    private long[] solution(int[] sides) {
        long[][] rows = new long[n][n + 1];
        for (int u = 0; u < n; u++) {
            for (int w = 0; w < n; w++) {
                rows[u][w] = number[u][w];
            }
            rows[u][n] = sides[u];
        }
        for (int c = 0; c < n; c++) {
            int from = c;
            while (rows[from][c] == 0) {
                from++;
            }
            long[] swapped = rows[from];
            rows[from] = rows[c];
            rows[c] = swapped;
            long factor = divided(1, rows[c][c]);
            for (int k = 0; k <= n; k++) {
                rows[c][k] = rows[c][k] * factor % p;
            }
            for (int r = 0; r < n; r++) {
                long times = rows[r][c];
                for (int k = 0; r != c && k <= n; k++) {
                    rows[r][k] = modulo(rows[r][k] - times * rows[c][k]);
                }
            }
        }
        long[] result = new long[n];
        for (int u = 0; u < n; u++) {
            result[u] = rows[u][n];
        }
        return result;
    }

    int solve(int u) {
        if (none(u)) {
            return refuse(-1);
        }
        return cannotSolve() ? refuse(-5) : (int) solution(right)[u];
    }

    int inside(int u, int w) {
        if (none(u) || none(w)) {
            return refuse(-1);
        }
        int[] single = new int[24];
        single[w] = 1;
        return cannotSolve() ? refuse(-5) : (int) solution(single)[u];
    }

    private int[] rounds(int hands) {
        int[] parents = new int[n];
        int[] heights = new int[n];
        for (int u = 0; u < n; u++) {
            parents[u] = parent(u);
            heights[u] = height(u);
        }
        int[] result = new int[n];
        Arrays.fill(result, -1);
        for (int round = 0; Arrays.stream(result).anyMatch(r -> r < 0); round++) {
            List<Integer> may = new ArrayList<>();
            for (int u : row) {
                boolean ready = result[u] < 0;
                for (int w = 0; w < n; w++) {
                    ready &= parents[w] != u || result[w] >= 0;
                }
                if (ready) {
                    may.add(u);
                }
            }
            may.sort((a, b) -> heights[b] - heights[a]);
            for (int u : may.subList(0, Math.min(hands, may.size()))) {
                result[u] = round;
            }
        }
        return result;
    }

    int plan(int hands) {
        if (hands < 1) {
            return refuse(-4);
        }
        if (hands > 24) {
            return refuse(-6);
        }
        return 1 + Arrays.stream(rounds(hands)).max().getAsInt();
    }

    int round(int hands, int u) {
        if (none(u)) {
            return refuse(-1);
        }
        if (hands < 1) {
            return refuse(-4);
        }
        if (hands > 24) {
            return refuse(-6);
        }
        return rounds(hands)[u];
    }

    int status(int what) {
        switch (what) {
            case 0: return n;
            case 1: return p;
            case 2:
                int pairs = 0;
                for (int u = 0; u < n; u++) {
                    for (int w = u + 1; w < n; w++) {
                        pairs += number[u][w] != 0 ? 1 : 0;
                    }
                }
                return pairs;
            case 3:
                int count = 0;
                for (int u = 0; u < n; u++) {
                    count += held[u] ? 1 : 0;
                }
                return count;
            case 4: return gone.size();
            case 5: return worked;
            case 6: return stuck;
            case 7:
                int v = 0;
                for (int u = 0; u < n; u++) {
                    for (int w = 0; w < n; w++) {
                        v = 31 * v + number[u][w];
                    }
                }
                return v;
            default:
                return what >= 11 && what <= 16 ? refusals[what - 10] : -9;
        }
    }
}
