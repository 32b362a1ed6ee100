import java.util.ArrayList;
import java.util.List;

/** A refused call: its number, its count, and a twin that tells that nothing else has changed. */
final class Twin {
    interface Call {
        int on(OutOrder x);
    }

    /** Of up to so many UNKNOWNS every ONE is looked at; of more that would be above 512 calls. */
    private static final int LOOK_AT_EVERY_ONE = 8;

    private Twin() {
    }

    /** A twin that is not asked the wrong thing must answer everything else alike. */
    static void refused(Checks checks, String what, Tables.Setup setup, int want, Call wrong) {
        OutOrder x = Tables.with(setup);
        OutOrder twin = Tables.with(setup);
        checks.due(what, wrong.on(x), want);
        int[] counts = refusals(x);
        int[] before = refusals(twin);
        for (int k = 1; k <= 6; k++) {
            checks.due(what + ", then refusals " + -k, counts[k], before[k] + (k == -want ? 1 : 0));
        }
        alike(checks, what, x, twin);
    }

    static void alike(Checks checks, String what, OutOrder x, OutOrder twin) {
        List<Integer> seen = look(x);
        List<Integer> twins = look(twin);
        checks.due(what + ", then as many answers", seen.size(), twins.size());
        for (int i = 0; i < Math.min(seen.size(), twins.size()); i++) {
            checks.due(what + ", then look " + i, seen.get(i), twins.get(i));
        }
    }

    static int[] refusals(OutOrder x) {
        int[] counts = new int[7];
        for (int k = 1; k <= 6; k++) {
            counts[k] = x.status(10 + k);
        }
        return counts;
    }

    /** All that can be told of the state; what changes it comes last. */
    private static List<Integer> look(OutOrder x) {
        List<Integer> seen = new ArrayList<>();
        for (int what = 0; what <= 7; what++) {
            seen.add(x.status(what));
        }
        int n = x.status(0);
        seen.add(x.fills());
        seen.add(x.fill(0));
        seen.add(x.width());
        seen.add(x.group(0));
        seen.add(x.ring());
        seen.add(x.worth());
        for (int u = 0; u < n; u++) {
            seen.add(x.number(u, 0));
            seen.add(x.at(u));
            seen.add(x.column(u, 3));
            seen.add(x.going(u, 0));
            seen.add(x.going(u, 2));
            seen.add(x.pivot(u));
            seen.add(x.solve(u));
            seen.add(x.round(2, u));
            for (int v = 0; v < (n > LOOK_AT_EVERY_ONE ? 1 : n); v++) {
                seen.add(x.one(u, v));
            }
        }
        for (int u = 0; u < n; u++) {
            seen.add(x.back());
            seen.add(x.side(u, 0));
            seen.add(x.hold(u, true) ? 1 : 0);
        }
        return seen;
    }
}
