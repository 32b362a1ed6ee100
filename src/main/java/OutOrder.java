/**
 * Symmetric equations modulo a prime: the order in which unknowns go out, what that fills,
 * and the work itself. Every row is made with the object, so that no call makes anything.
 */
public final class OutOrder {
    private static final int MOST = 24;
    /** Reckonings over all sets of UNKNOWNS stop here. */
    private static final int FEW = 12;
    private static final int GREATEST_PRIME = 32749;
    private static final int NONE = -9;
    /** Above all that is counted in a net. */
    private static final int BEYOND = MOST * MOST;

    private static final int NOBODY = -1;
    private static final int OTHER = -2;
    private static final int OUT = -3;
    private static final int BELOW = -4;
    private static final int STATE = -5;
    private static final int ROOM = -6;

    private static final int BY_SEARCH = 3;
    private static final int BY_LEAST_FILL = 4;
    private static final int BY_LEAST_WIDTH = 5;
    private static final int TURNED = 6;

    private final Table numbers = new Table();
    private final Row row = new Row();
    private final Rules rules = new Rules();
    private final Least minima = new Least();
    private final FullNet full = new FullNet();
    private final Going state = new Going();
    private final Work factors = new Work();
    private final Plan shares = new Plan();
    private final int[] refusals = new int[7];
    private boolean fullKnown;
    private boolean minimaKnown;

    public OutOrder() {
        startAnew(1, GREATEST_PRIME);
    }

    public int table(int n, int p) {
        if (n < 1 || p < 2) {
            return refuse(BELOW);
        }
        if (n > MOST || p > GREATEST_PRIME) {
            return refuse(ROOM);
        }
        if (!Modulus.isPrime(p)) {
            return refuse(OTHER);
        }
        startAnew(n, p);
        return 1;
    }

    public int put(int u, int w, int v) {
        if (isNobody(u) || isNobody(w)) {
            return refuse(NOBODY);
        }
        int before = numbers.values[u][w];
        numbers.set(u, w, v);
        numbersChanged();
        return before;
    }

    public int number(int u, int w) {
        if (isNobody(u) || isNobody(w)) {
            return refuse(NOBODY);
        }
        return numbers.values[u][w];
    }

    public boolean hold(int u, boolean on) {
        if (isNobody(u) || numbers.isHeld(u) == on) {
            return false;
        }
        numbers.held ^= 1 << u;
        return true;
    }

    public int order(int rule) {
        if (rule < 0 || rule > TURNED) {
            return refuse(OTHER);
        }
        boolean free = rule < BY_SEARCH || rule == TURNED;
        if (!free && numbers.held != 0) {
            return refuse(STATE);
        }
        boolean overAllSets = rule == BY_LEAST_FILL || rule == BY_LEAST_WIDTH;
        if (overAllSets && numbers.n > FEW) {
            return refuse(ROOM);
        }
        arrange(rule);
        orderChanged();
        return fullNet().fillCount;
    }

    public int swap(int i, int k) {
        if (isNobody(i) || isNobody(k)) {
            return refuse(NOBODY);
        }
        row.exchange(i, k);
        orderChanged();
        return 1;
    }

    public int at(int i) {
        return isNobody(i) ? refuse(NOBODY) : row.unknowns[i];
    }

    public int fills() {
        return fullNet().fillCount;
    }

    public int fill(int i) {
        FullNet net = fullNet();
        return i < 0 || i >= net.fillCount ? NONE : net.pairs[i];
    }

    public int column(int u, int what) {
        if (isNobody(u)) {
            return refuse(NOBODY);
        }
        FullNet net = fullNet();
        switch (what) {
            case 0: return row.places[u];
            case 1: return Integer.bitCount(net.behind[u]);
            case 2: return net.parents[u];
            case 3: return net.behind[u];
            case 4: return net.heights[u];
            case 5: return Integer.bitCount(net.children[u]);
            default: return NONE;
        }
    }

    public int width() {
        return fullNet().widest;
    }

    public int group(int i) {
        FullNet net = fullNet();
        return i < 0 || i >= net.groupCount ? NONE : net.groups[i];
    }

    public boolean isClean() {
        // A net has a CLEAN ORDER just when it has no RING (Fulkerson and Gross).
        return Rings.shortest(numbers.n, numbers.joins) == 0;
    }

    public int ring() {
        return Rings.shortest(numbers.n, numbers.joins);
    }

    public int least(int what) {
        if (what != 0 && what != 1) {
            return refuse(OTHER);
        }
        if (numbers.n > FEW) {
            return refuse(ROOM);
        }
        Least known = knownMinima();
        // Each pair of the FULL NET is BEHIND just one UNKNOWN; those that are no FILLS were JOINED.
        return what == 0 ? known.sums[0] - numbers.pairs() : known.widths[0];
    }

    public int begin() {
        state.restart(numbers);
        return numbers.n;
    }

    public int out(int u) {
        if (isNobody(u)) {
            return refuse(NOBODY);
        }
        if (!state.net.has(u)) {
            return refuse(OUT);
        }
        int added = state.net.missing(u);
        state.sendOut(u);
        return added;
    }

    public int going(int u, int what) {
        if (isNobody(u)) {
            return refuse(NOBODY);
        }
        if (!state.net.has(u)) {
            return refuse(OUT);
        }
        switch (what) {
            case 0: return state.kind(u, numbers.held);
            case 1: return Integer.bitCount(state.net.near[u]);
            case 2: return state.net.near[u];
            case 3: return state.net.missing(u);
            default: return NONE;
        }
    }

    public int back() {
        return state.undo(numbers);
    }

    public int work() {
        factors.reckon(numbers, row);
        return factors.worked;
    }

    public int pivot(int u) {
        if (isNobody(u)) {
            return refuse(NOBODY);
        }
        int place = row.places[u];
        if (place == factors.stuckPlace) {
            return 0;
        }
        return place < factors.worked ? factors.pivots[place] : refuse(STATE);
    }

    public int one(int u, int v) {
        if (isNobody(u) || isNobody(v)) {
            return refuse(NOBODY);
        }
        if (row.places[v] >= factors.worked) {
            return refuse(STATE);
        }
        return factors.share(row.places[u], row.places[v]);
    }

    public int worth() {
        return factors.worked < numbers.n ? refuse(STATE) : factors.product(numbers);
    }

    public int side(int u, int v) {
        if (isNobody(u)) {
            return refuse(NOBODY);
        }
        int before = numbers.sides[u];
        numbers.sides[u] = numbers.modulus.reduce(v);
        return before;
    }

    public int solve(int u) {
        if (isNobody(u)) {
            return refuse(NOBODY);
        }
        if (!factors.canDivide(numbers.n)) {
            return refuse(STATE);
        }
        factors.takeSides(numbers, row);
        factors.resolve(numbers);
        return factors.answers[row.places[u]];
    }

    public int inside(int u, int w) {
        if (isNobody(u) || isNobody(w)) {
            return refuse(NOBODY);
        }
        if (!factors.canDivide(numbers.n)) {
            return refuse(STATE);
        }
        factors.takeSingle(numbers.n, row.places[w]);
        factors.resolve(numbers);
        return factors.answers[row.places[u]];
    }

    public int plan(int hands) {
        if (hands < 1) {
            return refuse(BELOW);
        }
        if (hands > MOST) {
            return refuse(ROOM);
        }
        return shares.reckon(hands, row, fullNet());
    }

    public int round(int hands, int u) {
        if (isNobody(u)) {
            return refuse(NOBODY);
        }
        if (hands < 1) {
            return refuse(BELOW);
        }
        if (hands > MOST) {
            return refuse(ROOM);
        }
        shares.reckon(hands, row, fullNet());
        return shares.rounds[u];
    }

    public int status(int what) {
        if (what > 10 && what < 10 + refusals.length) {
            return refusals[what - 10];
        }
        switch (what) {
            case 0: return numbers.n;
            case 1: return numbers.modulus.p;
            case 2: return numbers.pairs();
            case 3: return Integer.bitCount(numbers.held);
            case 4: return state.count;
            case 5: return factors.worked;
            case 6: return factors.stuckPlace < 0 ? NONE : row.unknowns[factors.stuckPlace];
            case 7: return numbers.digest();
            default: return NONE;
        }
    }

    private boolean isNobody(int u) {
        return u < 0 || u >= numbers.n;
    }

    private int refuse(int answer) {
        int kind = -answer;
        if (kind > 0 && kind < refusals.length) {
            refusals[kind]++;
        }
        return answer;
    }

    private void startAnew(int n, int p) {
        numbers.clear(n, p);
        row.byNumbers(n);
        numbersChanged();
    }

    private void numbersChanged() {
        minimaKnown = false;
        state.restart(numbers);
        orderChanged();
    }

    private void orderChanged() {
        fullKnown = false;
        factors.forget();
    }

    private void arrange(int rule) {
        if (rule == TURNED) {
            row.turn();
        } else if (rule == BY_SEARCH) {
            rules.search(numbers, row);
        } else if (rule == BY_LEAST_FILL || rule == BY_LEAST_WIDTH) {
            knownMinima().walk(numbers, row, rule == BY_LEAST_WIDTH);
        } else {
            rules.greedy(rule, numbers, row);
        }
    }

    private FullNet fullNet() {
        if (!fullKnown) {
            full.reckon(numbers, row);
            fullKnown = true;
        }
        return full;
    }

    private Least knownMinima() {
        if (!minimaKnown) {
            minima.reckon(numbers);
            minimaKnown = true;
        }
        return minima;
    }

    /** Reckoning modulo P; what goes in but for reduce() is 0 .. P - 1, so that a product fits an int. */
    private static final class Modulus {
        private int p = GREATEST_PRIME;

        static boolean isPrime(int p) {
            for (int d = 2; d <= p / d; d++) {
                if (p % d == 0) {
                    return false;
                }
            }
            return p > 1;
        }

        int reduce(int v) {
            return p > 1 ? Math.floorMod(v, p) : 0;
        }

        int times(int a, int b) {
            return reduce(a * b);
        }

        /** By Fermat a to the power P - 2; 0 of 0. */
        int inverse(int a) {
            int result = 1;
            int square = a;
            for (int left = p - 2; left > 0; left >>= 1) {
                if ((left & 1) == 1) {
                    result = times(result, square);
                }
                square = times(square, square);
            }
            return a == 0 ? 0 : result;
        }
    }

    private static final class Table {
        private final Modulus modulus = new Modulus();
        private final int[][] values = new int[MOST][MOST];
        /** Bits of those that each one is JOINED with, never itself. */
        private final int[] joins = new int[MOST];
        private final int[] sides = new int[MOST];
        private int n = 1;
        private int held;

        void clear(int count, int p) {
            n = count;
            modulus.p = p;
            held = 0;
            for (int u = 0; u < MOST; u++) {
                joins[u] = 0;
                sides[u] = 0;
                for (int w = 0; w < MOST; w++) {
                    values[u][w] = 0;
                }
            }
        }

        void set(int u, int w, int v) {
            int value = modulus.reduce(v);
            values[u][w] = value;
            values[w][u] = value;
            if (u == w) {
                return;
            }
            if (value != 0) {
                joins[u] |= 1 << w;
                joins[w] |= 1 << u;
            } else {
                joins[u] &= ~(1 << w);
                joins[w] &= ~(1 << u);
            }
        }

        boolean isHeld(int u) {
            return (held >> u & 1) == 1;
        }

        int pairs() {
            int ends = 0;
            for (int u = 0; u < n; u++) {
                ends += Integer.bitCount(joins[u]);
            }
            return ends / 2;
        }

        int digest() {
            int v = 0;
            for (int u = 0; u < n; u++) {
                for (int w = 0; w < n; w++) {
                    v = 31 * v + values[u][w];
                }
            }
            return v;
        }
    }

    /** The ORDER, both ways: who is at a place, and the place of each one. */
    private static final class Row {
        private final int[] unknowns = new int[MOST];
        private final int[] places = new int[MOST];
        private int n = 1;

        void byNumbers(int count) {
            n = count;
            for (int u = 0; u < n; u++) {
                set(u, u);
            }
        }

        void set(int place, int u) {
            unknowns[place] = u;
            places[u] = place;
        }

        void exchange(int i, int k) {
            int u = unknowns[i];
            set(i, unknowns[k]);
            set(k, u);
        }

        void turn() {
            for (int i = 0; i < n / 2; i++) {
                exchange(i, n - 1 - i);
            }
        }
    }

    /** A net from which UNKNOWNS go OUT one by one. */
    private static final class Net {
        /** Bits of the NEIGHBOURS; stale for those that are OUT. */
        private final int[] near = new int[MOST];
        private int left;
        private int n = 1;

        void take(Table numbers) {
            n = numbers.n;
            left = (1 << n) - 1;
            for (int u = 0; u < n; u++) {
                near[u] = numbers.joins[u];
            }
        }

        boolean has(int u) {
            return (left >> u & 1) == 1;
        }

        /** How many FILLS it has if u goes OUT. */
        int missing(int u) {
            int around = near[u];
            int ends = 0;
            for (int w = 0; w < n; w++) {
                if ((around >> w & 1) == 1) {
                    ends += Integer.bitCount(around & ~near[w] & ~(1 << w));
                }
            }
            return ends / 2;
        }

        void remove(int u) {
            left &= ~(1 << u);
            copyWithout(u, near, near, n);
        }

        /** Into the rows of after come those of before, u having gone OUT; both may be the same. */
        static void copyWithout(int u, int[] before, int[] after, int n) {
            int around = before[u];
            for (int w = 0; w < n; w++) {
                boolean beside = (around >> w & 1) == 1;
                after[w] = beside ? (before[w] | around) & ~(1 << w | 1 << u) : before[w];
            }
        }
    }

    private static final class Rules {
        private final Net net = new Net();

        void greedy(int rule, Table numbers, Row row) {
            net.take(numbers);
            for (int i = 0; i < numbers.n; i++) {
                int free = net.left & ~numbers.held;
                int u = cheapest(rule, free != 0 ? free : net.left);
                row.set(i, u);
                net.remove(u);
            }
        }

        private int cheapest(int rule, int among) {
            int best = 0;
            int least = BEYOND;
            for (int u = 0; u < net.n; u++) {
                if ((among >> u & 1) == 1 && cost(rule, u) < least) {
                    best = u;
                    least = cost(rule, u);
                }
            }
            return best;
        }

        private int cost(int rule, int u) {
            if (rule == 0) {
                return 0;
            }
            return rule == 1 ? Integer.bitCount(net.near[u]) : net.missing(u);
        }

        void search(Table numbers, Row row) {
            int placed = 0;
            for (int i = numbers.n - 1; i >= 0; i--) {
                int u = mostJoined(numbers, placed);
                row.set(i, u);
                placed |= 1 << u;
            }
        }

        private static int mostJoined(Table numbers, int placed) {
            int best = 0;
            int most = -1;
            for (int u = 0; u < numbers.n; u++) {
                int joined = Integer.bitCount(numbers.joins[u] & placed);
                if ((placed >> u & 1) == 0 && joined > most) {
                    best = u;
                    most = joined;
                }
            }
            return best;
        }
    }

    /** For each set of UNKNOWNS that are OUT the least that the others can still come to. */
    private static final class Least {
        /** The least sum of how many are BEHIND each of the others. */
        private final int[] sums = new int[1 << FEW];
        private final int[] widths = new int[1 << FEW];
        /** Row k: the net in which, of the set, those from k on are OUT. */
        private final int[][] nets = new int[FEW + 1][FEW];
        private final Net net = new Net();

        void reckon(Table numbers) {
            int n = numbers.n;
            if (n > FEW) {
                return;
            }
            for (int u = 0; u < n; u++) {
                nets[n][u] = numbers.joins[u];
            }
            int all = (1 << n) - 1;
            for (int out = all; out >= 0; out--) {
                // The net tells nothing of the way in which a set went OUT, so that what the
                // set before and this one have alike above their lower bits need not be made anew.
                int changed = out == all ? all : out ^ (out + 1);
                for (int k = n - 1; k >= 0; k--) {
                    if (changed >> k != 0) {
                        makeNet(k, out, n);
                    }
                }
                weigh(out, n);
            }
        }

        private void makeNet(int k, int out, int n) {
            if ((out >> k & 1) == 1) {
                Net.copyWithout(k, nets[k + 1], nets[k], n);
            } else {
                System.arraycopy(nets[k + 1], 0, nets[k], 0, n);
            }
        }

        private void weigh(int out, int n) {
            int sum = BEYOND;
            int width = BEYOND;
            for (int u = 0; u < n; u++) {
                if ((out >> u & 1) == 0) {
                    int behind = Integer.bitCount(nets[0][u]);
                    int next = out | 1 << u;
                    sum = Math.min(sum, behind + sums[next]);
                    width = Math.min(width, Math.max(behind, widths[next]));
                }
            }
            boolean nobodyLeft = out == (1 << n) - 1;
            sums[out] = nobodyLeft ? 0 : sum;
            widths[out] = nobodyLeft ? 0 : width;
        }

        void walk(Table numbers, Row row, boolean byWidth) {
            if (numbers.n > FEW) {
                return;
            }
            net.take(numbers);
            int out = 0;
            for (int i = 0; i < numbers.n; i++) {
                int u = firstGood(out, byWidth);
                row.set(i, u);
                net.remove(u);
                out |= 1 << u;
            }
        }

        private int firstGood(int out, boolean byWidth) {
            for (int u = 0; u < net.n; u++) {
                if (net.has(u) && isGood(out, u, byWidth)) {
                    return u;
                }
            }
            return 0;
        }

        private boolean isGood(int out, int u, boolean byWidth) {
            int behind = Integer.bitCount(net.near[u]);
            int next = out | 1 << u;
            // WIDTH is of the whole ORDER: a step may be wider than the best from here on.
            return byWidth ? Math.max(behind, widths[next]) <= widths[0]
                    : behind + sums[next] == sums[out];
        }
    }

    /** What the ORDER makes of the net. */
    private static final class FullNet {
        private final Net net = new Net();
        private final int[] pairs = new int[MOST * MOST / 2];
        private final int[] behind = new int[MOST];
        private final int[] parents = new int[MOST];
        private final int[] heights = new int[MOST];
        private final int[] children = new int[MOST];
        private final int[] groups = new int[MOST];
        private int fillCount;
        private int groupCount;
        private int widest;

        void reckon(Table numbers, Row row) {
            net.take(numbers);
            fillCount = 0;
            widest = 0;
            for (int i = 0; i < row.n; i++) {
                int u = row.unknowns[i];
                behind[u] = net.near[u];
                widest = Math.max(widest, Integer.bitCount(behind[u]));
                listFills(behind[u]);
                net.remove(u);
            }
            makeTree(row);
            makeGroups(row.n);
        }

        private void listFills(int around) {
            for (int a = 0; a < net.n; a++) {
                if ((around >> a & 1) == 0) {
                    continue;
                }
                int apart = around & ~net.near[a];
                for (int b = a + 1; b < net.n; b++) {
                    if ((apart >> b & 1) == 1 && fillCount < pairs.length) {
                        pairs[fillCount] = 32 * a + b;
                        fillCount++;
                    }
                }
            }
        }

        private void makeTree(Row row) {
            for (int u = 0; u < row.n; u++) {
                children[u] = 0;
            }
            for (int i = row.n - 1; i >= 0; i--) {
                int u = row.unknowns[i];
                int parent = firstOf(behind[u], row);
                parents[u] = parent;
                heights[u] = 0;
                if (parent >= 0) {
                    heights[u] = heights[parent] + 1;
                    children[parent] |= 1 << u;
                }
            }
        }

        private static int firstOf(int bits, Row row) {
            for (int i = 0; i < row.n; i++) {
                if ((bits >> row.unknowns[i] & 1) == 1) {
                    return row.unknowns[i];
                }
            }
            return NONE;
        }

        /** The FULL NET has no RING: each GROUP is its first one in the ORDER with those BEHIND it. */
        private void makeGroups(int n) {
            groupCount = 0;
            for (int u = 0; u < n; u++) {
                if (!isWithinAnother(u, n)) {
                    insertGroup(behind[u] | 1 << u);
                }
            }
        }

        private boolean isWithinAnother(int u, int n) {
            int mine = behind[u] | 1 << u;
            for (int w = 0; w < n; w++) {
                if (w != u && (mine & ~(behind[w] | 1 << w)) == 0) {
                    return true;
                }
            }
            return false;
        }

        private void insertGroup(int bits) {
            int i = groupCount;
            for (; i > 0 && groups[i - 1] > bits; i--) {
                groups[i] = groups[i - 1];
            }
            groups[i] = bits;
            groupCount++;
        }
    }

    private static final class Rings {
        static int shortest(int n, int[] joins) {
            int best = 0;
            for (int v = 0; v < n; v++) {
                for (int a = 0; a < n; a++) {
                    int length = (joins[v] >> a & 1) == 1 ? along(v, a, n, joins) : 0;
                    if (length != 0 && (best == 0 || length < best)) {
                        best = length;
                    }
                }
            }
            return best;
        }

        /**
         * The shortest RING in which a is next to v. A shortest way from a to another that is
         * JOINED with v, through none that is, has no JOIN across: with v it is a RING.
         */
        private static int along(int v, int a, int n, int[] joins) {
            int ends = joins[v] & ~joins[a] & ~(1 << a);
            int free = ~joins[v] & ~(1 << v);
            int edge = 1 << a;
            for (int steps = 0; steps < n && edge != 0; steps++) {
                int reached = joinedWith(edge, n, joins);
                if ((reached & ends) != 0) {
                    return steps + 3;
                }
                edge = reached & free;
                free &= ~edge;
            }
            return 0;
        }

        private static int joinedWith(int bits, int n, int[] joins) {
            int reached = 0;
            for (int u = 0; u < n; u++) {
                if ((bits >> u & 1) == 1) {
                    reached |= joins[u];
                }
            }
            return reached;
        }
    }

    /** GOING. put() begins it anew, so that the numbers always tell the JOINS that it began with. */
    private static final class Going {
        private final Net net = new Net();
        private final int[] gone = new int[MOST];
        private int count;

        void restart(Table numbers) {
            net.take(numbers);
            count = 0;
        }

        void sendOut(int u) {
            if (count < gone.length) {
                gone[count] = u;
                count++;
                net.remove(u);
            }
        }

        int undo(Table numbers) {
            if (count < 1) {
                return NONE;
            }
            count--;
            net.take(numbers);
            for (int i = 0; i < count; i++) {
                net.remove(gone[i]);
            }
            return gone[count];
        }

        int kind(int u, int held) {
            if ((held >> u & 1) == 1 && (net.left & ~held) != 0) {
                return 4;
            }
            if (net.near[u] == 0) {
                return 3;
            }
            if (isTwin(u)) {
                return 2;
            }
            return net.missing(u) == 0 ? 1 : 0;
        }

        private boolean isTwin(int u) {
            int mine = net.near[u] | 1 << u;
            for (int w = 0; w < u; w++) {
                boolean beside = (net.near[u] >> w & 1) == 1;
                if (beside && (net.near[w] | 1 << w) == mine) {
                    return true;
                }
            }
            return false;
        }
    }

    /** The WORK. Its rows go by places of the ORDER, which stays as it is while the WORK stands. */
    private static final class Work {
        /** In row i at k ahead of i: first the REST, then the ONE of those at these places. */
        private final int[][] ones = new int[MOST][MOST];
        private final int[] pivots = new int[MOST];
        private final int[] inverses = new int[MOST];
        private final int[] answers = new int[MOST];
        private int worked;
        private int stuckPlace = -1;

        void forget() {
            worked = 0;
            stuckPlace = -1;
        }

        void reckon(Table numbers, Row row) {
            forget();
            takeNumbers(numbers, row);
            for (int k = 0; k < numbers.n; k++) {
                pivots[k] = ones[k][k];
                inverses[k] = numbers.modulus.inverse(pivots[k]);
                if (pivots[k] == 0 && hasRest(k, numbers.n)) {
                    stuckPlace = k;
                    return;
                }
                if (pivots[k] != 0) {
                    eliminate(k, numbers.n, numbers.modulus);
                }
                worked++;
            }
        }

        private void takeNumbers(Table numbers, Row row) {
            for (int i = 0; i < numbers.n; i++) {
                for (int k = 0; k <= i; k++) {
                    ones[i][k] = numbers.values[row.unknowns[i]][row.unknowns[k]];
                }
            }
        }

        private boolean hasRest(int k, int n) {
            for (int i = k + 1; i < n; i++) {
                if (ones[i][k] != 0) {
                    return true;
                }
            }
            return false;
        }

        private void eliminate(int k, int n, Modulus modulus) {
            for (int i = k + 1; i < n; i++) {
                int rest = ones[i][k];
                ones[i][k] = modulus.times(rest, inverses[k]);
                // Column k down to i is ONE by now, and REST(i) is ONE(i) times the PIVOT.
                for (int j = k + 1; j <= i; j++) {
                    ones[i][j] = modulus.reduce(ones[i][j] - rest * ones[j][k]);
                }
            }
        }

        int share(int i, int k) {
            if (i == k) {
                return 1;
            }
            return i < k ? 0 : ones[i][k];
        }

        int product(Table numbers) {
            int result = 1;
            for (int k = 0; k < numbers.n; k++) {
                result = numbers.modulus.times(result, pivots[k]);
            }
            return result;
        }

        boolean canDivide(int n) {
            for (int k = 0; k < worked; k++) {
                if (pivots[k] == 0) {
                    return false;
                }
            }
            return worked == n;
        }

        void takeSides(Table numbers, Row row) {
            for (int i = 0; i < numbers.n; i++) {
                answers[i] = numbers.sides[row.unknowns[i]];
            }
        }

        void takeSingle(int n, int place) {
            for (int i = 0; i < n; i++) {
                answers[i] = i == place ? 1 : 0;
            }
        }

        /** In answers the right sides become what the UNKNOWNS are. */
        void resolve(Table numbers) {
            Modulus modulus = numbers.modulus;
            int n = numbers.n;
            for (int i = 0; i < n; i++) {
                for (int k = 0; k < i; k++) {
                    answers[i] = modulus.reduce(answers[i] - ones[i][k] * answers[k]);
                }
            }
            for (int i = n - 1; i >= 0; i--) {
                answers[i] = modulus.times(answers[i], inverses[i]);
                for (int k = i + 1; k < n; k++) {
                    answers[i] = modulus.reduce(answers[i] - ones[k][i] * answers[k]);
                }
            }
        }
    }

    private static final class Plan {
        private final int[] rounds = new int[MOST];

        int reckon(int hands, Row row, FullNet net) {
            int all = (1 << row.n) - 1;
            int done = 0;
            int count = 0;
            for (; count < row.n && done != all; count++) {
                int ready = allowed(done, row.n, net);
                for (int h = 0; h < hands && ready != 0; h++) {
                    int u = highest(ready, row, net);
                    rounds[u] = count;
                    ready &= ~(1 << u);
                    done |= 1 << u;
                }
            }
            return count;
        }

        private static int allowed(int done, int n, FullNet net) {
            int ready = 0;
            for (int u = 0; u < n; u++) {
                if ((done >> u & 1) == 0 && (net.children[u] & ~done) == 0) {
                    ready |= 1 << u;
                }
            }
            return ready;
        }

        private static int highest(int among, Row row, FullNet net) {
            int best = 0;
            int height = -1;
            for (int i = 0; i < row.n; i++) {
                int u = row.unknowns[i];
                if ((among >> u & 1) == 1 && net.heights[u] > height) {
                    best = u;
                    height = net.heights[u];
                }
            }
            return best;
        }
    }
}
