/** What the parts of BoundariesTest have alike. */
abstract class Boundaries {
    interface Asked {
        int on(OutOrder x, int u);
    }

    interface Due {
        int of(int n, int u);
    }

    static final int LOW = Integer.MIN_VALUE;
    static final int HIGH = Integer.MAX_VALUE;

    private final Sentences sentences;

    Boundaries(Sentences sentences) {
        this.sentences = sentences;
    }

    abstract void ask();

    void section(String heading) {
        sentences.open(heading);
    }

    void sentence(String words, Runnable test) {
        sentences.test(words, test);
    }

    void due(String what, int got, int want) {
        sentences.due(what, got, want);
    }

    void due(String what, boolean got, boolean want) {
        sentences.due(what, got ? 1 : 0, want ? 1 : 0);
    }

    void rowIs(OutOrder x, int... unknowns) {
        for (int i = 0; i < unknowns.length; i++) {
            due("at(" + i + ")", x.at(i), unknowns[i]);
            due("the place of " + unknowns[i], x.column(unknowns[i], 0), i);
        }
        due("at(" + unknowns.length + "), one more", x.at(unknowns.length), -1);
    }

    void fillsAre(OutOrder x, int... pairs) {
        due("fills()", x.fills(), pairs.length);
        for (int i = 0; i < pairs.length; i++) {
            due("fill(" + i + ")", x.fill(i), pairs[i]);
        }
        due("fill(" + pairs.length + "), one more", x.fill(pairs.length), -9);
        due("fill(-1)", x.fill(-1), -9);
    }

    void groupsAre(OutOrder x, int... bits) {
        for (int i = 0; i < bits.length; i++) {
            due("group(" + i + ")", x.group(i), bits[i]);
        }
        due("group(" + bits.length + "), one more", x.group(bits.length), -9);
        due("group(-1)", x.group(-1), -9);
    }

    void noRefusal(OutOrder x) {
        for (int k = 1; k <= 6; k++) {
            due("REFUSALS " + -k, x.status(10 + k), 0);
        }
    }

    void refused(String what, Tables.Setup setup, int want, Twin.Call wrong) {
        sentences.refused(what, setup, want, wrong);
    }

    /** In each state in which something might be changed. */
    void refusedAnywhere(String what, int want, Twin.Call wrong) {
        refused(what + " of a new object", x -> { }, want, wrong);
        refused(what + " in rich", Tables::rich, want, wrong);
        refused(what + ", STUCK", Tables::stuck, want, wrong);
        refused(what + ", a PIVOT 0", Tables::nought, want, wrong);
        refused(what + ", 24", Boundaries::everything24, want, wrong);
    }

    /** All HELD, all OUT, all WORKED. */
    static void everything24(OutOrder x) {
        Tables.units(x, 24);
        x.order(6);
        x.work();
        for (int u = 0; u < 24; u++) {
            x.hold(u, true);
            x.out(u);
        }
    }

    /** Of one UNKNOWN, of six and of 24: 0 and the last one are as due, -1 and one more are NOBODY. */
    void ends(String name, Asked call, Due want) {
        for (int n : new int[] {1, 6, 24}) {
            Tables.Setup setup = x -> Tables.units(x, n);
            for (int u : new int[] {0, n - 1}) {
                OutOrder x = Tables.with(setup);
                due(name + " of " + u + ", " + n, call.on(x, u), want.of(n, u));
                noRefusal(x);
            }
            for (int wrong : new int[] {-1, n, n + 1, 31, 32, LOW, HIGH}) {
                refused(name + " of " + wrong + ", " + n, setup, -1, x -> call.on(x, wrong));
            }
        }
    }
}
