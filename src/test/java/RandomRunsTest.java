import java.util.Arrays;
import java.util.Map;
import java.util.Random;
import java.util.TreeMap;

/** Runs of calls, by fixed seeds, of the program beside the plain Reference. */
public final class RandomRunsTest {
    private static final int CALLS = 512;
    private static final int[] PRIMES = {2, 3, 5, 7, 101, 32749};
    private static final int[] WILD = {Integer.MIN_VALUE, Integer.MAX_VALUE, -1, -2, 24, 25, 31, 32, 33, 64};

    private static final String[] MUST_COME = {
        "table +", "table -2", "table -4", "table -6", "put +", "put -1", "number +", "number -1", "hold +",
        "order +", "order -2", "order -5", "order -6", "swap +", "swap -1", "at +", "at -1", "fills +",
        "fill +", "fill -9", "column +", "column -1", "column -9", "width +", "group +", "group -9",
        "isClean +", "ring +", "least +", "least -2", "least -6", "begin +", "out +", "out -1", "out -3",
        "going +", "going -1", "going -3", "going -9", "back +", "back -9", "work +", "pivot +", "pivot -1",
        "pivot -5", "one +", "one -1", "one -5", "worth +", "worth -5", "side +", "side -1", "solve +",
        "solve -1", "solve -5", "inside +", "inside -1", "inside -5", "plan +", "plan -4", "plan -6",
        "round +", "round -1", "round -4", "round -6", "status +", "status -9",
    };
    private static final Map<String, Integer> REACHED = new TreeMap<>();

    private final Checks checks;
    private final String name;
    private final Random random;
    private final int most;
    /** In a calm run the TABLE and the ORDER change seldom, so that WORK stands for long. */
    private final boolean calm;
    private final OutOrder x = new OutOrder();
    private final Reference y = new Reference();

    private RandomRunsTest(Checks checks, int seed, int most) {
        this.checks = checks;
        this.name = "run " + seed + " (up to " + most + ")";
        this.random = new Random(seed);
        this.most = most;
        this.calm = seed % 2 == 1;
    }

    public static void main(String[] args) {
        Checks checks = new Checks();
        for (int seed = 0; seed < 400; seed++) {
            new RandomRunsTest(checks, seed, 6).run();
        }
        for (int seed = 1000; seed < 1040; seed++) {
            new RandomRunsTest(checks, seed, 9).run();
        }
        for (int seed = 2000; seed < 2060; seed++) {
            new RandomRunsTest(checks, seed, 24).run();
        }
        for (int seed = 3000; seed < 3010; seed++) {
            new RandomRunsTest(checks, seed, 24).wildRun();
        }
        checkReached(checks);
        checks.end();
    }

    /** A comparison proves nothing of an answer that never came. */
    private static void checkReached(Checks checks) {
        for (String answer : MUST_COME) {
            checks.due("how often " + answer + " came, at least 20", Math.min(20, REACHED.getOrDefault(answer, 0)), 20);
        }
    }

    private void run() {
        int left = CALLS - freshTable(1 + random.nextInt(most));
        for (; left > 0 && checks.allPassed(); left--) {
            int chance = random.nextInt(100);
            if (chance == 0 && left > 100) {
                left -= freshTable(1 + random.nextInt(most));
            } else {
                call(nextKind(chance), 20);
            }
        }
    }

    private int nextKind(int chance) {
        int kind = chance < 8 ? 1 : 2 + random.nextInt(28);
        boolean disturbs = kind == 1 || kind == 4 || kind == 5;
        return calm && disturbs && random.nextInt(10) != 0 ? 20 + random.nextInt(7) : kind;
    }

    /** Arguments from far outside. */
    private void wildRun() {
        for (int i = 0; i < CALLS - CALLS / 16 && checks.allPassed(); i++) {
            call(random.nextInt(30), 2);
            if (i % 16 == 0) {
                int n = random.nextInt(28) - 1;
                int p = random.nextInt(i % 32 == 0 ? 12 : 33000) - 1;
                due("table", x.table(n, p), y.table(n, p), n, p);
            }
        }
    }

    /** A table of this kind is slow in the Reference if it has 8 to 12 UNKNOWNS; few calls then ask for all orders. */
    private boolean isSlow(int kind) {
        return (kind == 4 || kind == 15) && y.n > 6 && y.n <= 12 && random.nextInt(8) != 0;
    }

    private int freshTable(int n) {
        int p = PRIMES[random.nextInt(PRIMES.length)];
        due("table", x.table(n, p), y.table(n, p), n, p);
        int density = 1 + random.nextInt(9);
        int calls = 1;
        for (int u = 0; u < n; u++) {
            for (int w = 0; w <= u && calls < CALLS / 2; w++) {
                boolean tied = w == u ? random.nextInt(8) != 0 : random.nextInt(10) < density || n > 12 && random.nextInt(n) < 2;
                if (tied && (n <= 12 || w == u || random.nextInt(3) == 0)) {
                    int v = random.nextInt();
                    due("put", x.put(u, w, v), y.put(u, w, v), u, w, v);
                    calls++;
                }
            }
        }
        return calls;
    }

    private int someone(int wildness) {
        if (random.nextInt(wildness) == 0) {
            return WILD[random.nextInt(WILD.length)];
        }
        return random.nextInt(wildness) == 0 ? y.n : random.nextInt(y.n);
    }

    private int upTo(int greatest, int wildness) {
        return random.nextInt(wildness) == 0 ? WILD[random.nextInt(WILD.length)] : random.nextInt(greatest + 1);
    }

    private void call(int kind, int wildness) {
        if (isSlow(kind)) {
            return;
        }
        if (kind < 10) {
            callTable(kind, wildness);
        } else if (kind < 20) {
            callNet(kind, wildness);
        } else {
            callWork(kind, wildness);
        }
    }

    private void callTable(int kind, int wildness) {
        int a = someone(wildness);
        int b = someone(wildness);
        int v = random.nextInt(3) == 0 ? 0 : random.nextInt();
        boolean on = random.nextInt(3) == 0;
        int rule = upTo(7, wildness);
        int i = upTo(12, wildness);
        switch (kind) {
            case 0: due("table", x.table(a, v), y.table(a, v), a, v); break;
            case 1: due("put", x.put(a, b, v), y.put(a, b, v), a, b, v); break;
            case 2: due("number", x.number(a, b), y.number(a, b), a, b); break;
            case 3: due("hold", x.hold(a, on) ? 1 : 0, y.hold(a, on) ? 1 : 0, a, on ? 1 : 0); break;
            case 4: due("order", x.order(rule), y.order(rule), rule); break;
            case 5: due("swap", x.swap(a, b), y.swap(a, b), a, b); break;
            case 6: due("at", x.at(a), y.at(a), a); break;
            case 7: due("fills", x.fills(), y.fills()); break;
            case 8: due("fill", x.fill(i), y.fill(i), i); break;
            default: due("column", x.column(a, i % 7), y.column(a, i % 7), a, i % 7); break;
        }
    }

    private void callNet(int kind, int wildness) {
        int a = someone(wildness);
        int what = upTo(4, wildness);
        int i = upTo(6, wildness);
        switch (kind) {
            case 10: due("width", x.width(), y.width()); break;
            case 11: due("group", x.group(i), y.group(i), i); break;
            case 12: due("isClean", x.isClean() ? 1 : 0, y.isClean() ? 1 : 0); break;
            case 13: due("ring", x.ring(), y.ring()); break;
            case 14: due("out", x.out(a), y.out(a), a); break;
            case 15: due("least", x.least(what / 2), y.least(what / 2), what / 2); break;
            case 16:
                if (random.nextInt(5) == 0) {
                    due("begin", x.begin(), y.begin());
                }
                break;
            case 17: due("out", x.out(a), y.out(a), a); break;
            case 18: due("going", x.going(a, what), y.going(a, what), a, what); break;
            default: due("back", x.back(), y.back()); break;
        }
    }

    private void callWork(int kind, int wildness) {
        int a = someone(wildness);
        int b = someone(wildness);
        int v = random.nextInt();
        int hands = upTo(random.nextInt(4) == 0 ? 25 : 4, wildness);
        int what = upTo(18, wildness);
        switch (kind) {
            case 20: due("work", x.work(), y.work()); break;
            case 21: due("pivot", x.pivot(a), y.pivot(a), a); break;
            case 22: due("one", x.one(a, b), y.one(a, b), a, b); break;
            case 23: due("worth", x.worth(), y.worth()); break;
            case 24: due("side", x.side(a, v), y.side(a, v), a, v); break;
            case 25: due("solve", x.solve(a), y.solve(a), a); break;
            case 26: due("inside", x.inside(a, b), y.inside(a, b), a, b); break;
            case 27: due("plan", x.plan(hands), y.plan(hands), hands); break;
            case 28: due("round", x.round(hands, a), y.round(hands, a), hands, a); break;
            default: due("status", x.status(what), y.status(what), what); break;
        }
    }

    private void due(String call, int got, int want, int... arguments) {
        REACHED.merge(call + (want < 0 ? " " + want : " +"), 1, Integer::sum);
        checks.due(name + ": " + call + Arrays.toString(arguments), got, want);
    }
}
