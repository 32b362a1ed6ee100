/** Promises 1 to 8: the TABLE, what is HELD, and the ORDER. */
final class TableBoundaries extends Boundaries {
    /** A number that is put, and what it is modulo 2, 7 and 32749. */
    static final int[][] WRAPPED = {
        {LOW, 0, 5, 32027}, {LOW + 1, 1, 6, 32028}, {-32750, 0, 3, 32748}, {-32749, 1, 4, 0}, {-32748, 0, 5, 1},
        {-8, 0, 6, 32741}, {-7, 1, 0, 32742}, {-6, 0, 1, 32743}, {-2, 0, 5, 32747}, {-1, 1, 6, 32748},
        {0, 0, 0, 0}, {1, 1, 1, 1}, {2, 0, 2, 2}, {6, 0, 6, 6}, {7, 1, 0, 7}, {8, 0, 1, 8},
        {32748, 0, 2, 32748}, {32749, 1, 3, 0}, {32750, 0, 4, 1}, {HIGH - 1, 0, 0, 720}, {HIGH, 1, 1, 721},
    };
    static final int[] PRIMES = {2, 7, 32749};

    TableBoundaries(Sentences sentences) {
        super(sentences);
    }

    @Override
    void ask() {
        askNewObject();
        askTable();
        askTableRefusals();
        askPut();
        askNumber();
        askHold();
        askOrder();
        askSwap();
        askAt();
    }

    // ---- 1

    private void askNewObject() {
        section("Promise 1");
        sentence("One UNKNOWN, P 32749, the ORDER 0.", () -> {
            OutOrder x = new OutOrder();
            int[] fresh = {1, 32749, 0, 0, 0, 0, -9, 0, -9, -9, -9, 0, 0, 0, 0, 0, 0, -9};
            for (int what = 0; what < fresh.length; what++) {
                due("status(" + what + ")", x.status(what), fresh[what]);
            }
            due("number(0, 0)", x.number(0, 0), 0);
            rowIs(x, 0);
            fillsAre(x);
            groupsAre(x, 1);
            due("back()", x.back(), -9);
            due("worth()", x.worth(), -5);
            due("side(0, 1)", x.side(0, 1), 0);
            due("hold(0, false)", x.hold(0, false), false);
        });
    }

    // ---- 2

    private void askTable() {
        section("Promise 2");
        sentence("A TABLE of n UNKNOWNS, all 0, modulo p", this::allNought);
        sentence("none HELD", () -> {
            OutOrder x = Tables.with(Boundaries::everything24);
            due("all HELD before", x.status(3), 24);
            due("table(24, 2)", x.table(24, 2), 1);
            due("HELD", x.status(3), 0);
            for (int u = 0; u < 24; u++) {
                due("hold(" + u + ", false)", x.hold(u, false), false);
            }
        });
        sentence("the ORDER by numbers", () -> {
            OutOrder x = Tables.with(Boundaries::everything24);
            x.table(24, 2);
            for (int i = 0; i < 24; i++) {
                due("at(" + i + ")", x.at(i), i);
                due("column(" + i + ", 0)", x.column(i, 0), i);
            }
            x.order(6);
            x.table(3, 2);
            rowIs(x, 0, 1, 2);
        });
        sentence("right sides 0", () -> {
            OutOrder x = Tables.with(Boundaries::everything24);
            x.table(1, 101);
            x.table(24, 101);
            for (int u = 0; u < 24; u++) {
                due("side(" + u + ", 0)", x.side(u, 0), 0);
            }
        });
        sentence("nothing WORKED: 1.", () -> {
            for (Tables.Setup setup : new Tables.Setup[] {Boundaries::everything24, Tables::stuck, Tables::nought}) {
                OutOrder x = Tables.with(setup);
                due("table(2, 7)", x.table(2, 7), 1);
                due("WORKED", x.status(5), 0);
                due("STUCK", x.status(6), -9);
                due("pivot(0)", x.pivot(0), -5);
                due("pivot(1)", x.pivot(1), -5);
                due("OUT", x.status(4), 0);
            }
        });
    }

    private void allNought() {
        for (int n : new int[] {1, 2, 12, 13, 23, 24}) {
            for (int p : PRIMES) {
                OutOrder x = Tables.with(o -> Tables.fullOf(o, 24, 32749));
                due("table(" + n + ", " + p + ")", x.table(n, p), 1);
                due("UNKNOWNS", x.status(0), n);
                due("P", x.status(1), p);
                due("pairs", x.status(2), 0);
                due("all numbers", x.status(7), 0);
                due("the last one", x.number(n - 1, n - 1), 0);
                due("one more", x.number(n, 0), -1);
                due("NEIGHBOURS", x.going(n - 1, 2), 0);
            }
        }
        OutOrder y = Tables.with(o -> Tables.fullOf(o, 24, 32749));
        y.table(1, 2);
        y.table(24, 2);
        due("what had gone from sight", y.status(2), 0);
        due("number(22, 23)", y.number(22, 23), 0);
    }

    private void wrongTables(int want, int[]... wrong) {
        for (int[] w : wrong) {
            refusedAnywhere("table(" + w[0] + ", " + w[1] + ")", want, x -> x.table(w[0], w[1]));
        }
    }

    private void askTableRefusals() {
        sentence("-4 n below 1, p below 2", () -> wrongTables(-4, new int[][] {
            {0, 7}, {-1, 7}, {LOW, 7}, {5, 1}, {5, 0}, {5, -1}, {5, -7}, {5, LOW}, {0, 1}, {0, 4}, {25, 1}, {0, 32750}, {LOW, HIGH}, {HIGH, LOW},
        }));
        sentence("-6 n above 24, p above 32749", () -> wrongTables(-6, new int[][] {
            {25, 7}, {26, 2}, {HIGH, 32749}, {5, 32750}, {5, 32771}, {24, HIGH}, {25, 32750}, {25, 4}, {25, 32748}, {1, 32761},
        }));
        sentence("-2 p is no prime.", () -> {
            wrongTables(-2, new int[][] {{5, 4}, {1, 6}, {24, 9}, {5, 25}, {5, 32041}, {5, 32743}, {24, 32747}, {1, 32748}});
            everyPrime();
        });
    }

    /** A sieve tells which of 2 .. 32749 are primes. */
    private void everyPrime() {
        boolean[] composite = new boolean[32750];
        OutOrder x = new OutOrder();
        for (int p = 2; p <= 32749; p++) {
            for (int k = 2 * p; k <= 32749 && !composite[p]; k += p) {
                composite[k] = true;
            }
            x = p % 500 == 0 ? new OutOrder() : x;
            due("table(1, " + p + ")", x.table(1, p), composite[p] ? -2 : 1);
        }
    }

    // ---- 3

    private void askPut() {
        section("Promise 3");
        sentence("The number of two UNKNOWNS (or one with itself) becomes v modulo P (0 .. P - 1): what it was.", () -> {
            for (int i = 0; i < PRIMES.length; i++) {
                putWrapped(PRIMES[i], i + 1, 0, 23);
                putWrapped(PRIMES[i], i + 1, 23, 0);
                putWrapped(PRIMES[i], i + 1, 23, 23);
            }
        });
        sentence("Nothing is WORKED then.", () -> {
            for (Tables.Setup setup : new Tables.Setup[] {Tables::rich, Tables::stuck, Tables::nought}) {
                OutOrder x = Tables.with(setup);
                due("put of what it was", x.put(0, 1, 1), 1);
                due("WORKED", x.status(5), 0);
                due("STUCK", x.status(6), -9);
                due("pivot(0)", x.pivot(0), -5);
                due("pivot(1)", x.pivot(1), -5);
                due("one(0, 0)", x.one(0, 0), -5);
            }
            OutOrder all = Tables.with(Boundaries::everything24);
            due("put of the last one", all.put(23, 23, 24), 24);
            due("WORKED of 24", all.status(5), 0);
            due("HELD stays", all.status(3), 24);
            due("the ORDER stays", all.at(0), 23);
            due("right sides stay", all.side(23, 0), 48);
        });
        sentence("-1.", () -> {
            ends("put(u, 0, 5)", (x, u) -> x.put(u, 0, 5), (n, u) -> u == 0 ? 1 : 0);
            ends("put(0, u, 5)", (x, u) -> x.put(0, u, 5), (n, u) -> u == 0 ? 1 : 0);
            ends("put(u, u, 5)", (x, u) -> x.put(u, u, 5), (n, u) -> u + 1);
            refusedAnywhere("put(-1, 0, 0)", -1, x -> x.put(-1, 0, 0));
            refusedAnywhere("put(0, 24, 0)", -1, x -> x.put(0, 24, 0));
        });
    }

    private void putWrapped(int p, int column, int u, int w) {
        OutOrder x = Tables.with(o -> o.table(24, p));
        int before = 0;
        for (int[] row : WRAPPED) {
            String call = "put(" + u + ", " + w + ", " + row[0] + ") modulo " + p;
            due(call, x.put(u, w, row[0]), before);
            due(call + ", then number", x.number(w, u), row[column]);
            due(call + ", then pairs", x.status(2), u != w && row[column] != 0 ? 1 : 0);
            before = row[column];
        }
    }

    // ---- 4

    private void askNumber() {
        section("Promise 4");
        sentence("The number of two UNKNOWNS.", () -> {
            due("of one alone", new OutOrder().number(0, 0), 0);
            OutOrder x = Tables.with(o -> Tables.fullOf(o, 24, 32749));
            due("all JOINED", x.number(0, 23), 1);
            due("with itself", x.number(23, 23), 0);
            x.put(0, 23, -1);
            due("the greatest", x.number(23, 0), 32748);
            x.out(0);
            due("it is OUT", x.number(0, 1), 1);
        });
        sentence("-1.", () -> {
            ends("number(u, 0)", (x, u) -> x.number(u, 0), (n, u) -> u == 0 ? 1 : 0);
            ends("number(0, u)", (x, u) -> x.number(0, u), (n, u) -> u == 0 ? 1 : 0);
            ends("number(u, u)", (x, u) -> x.number(u, u), (n, u) -> u + 1);
            refusedAnywhere("number(0, -1)", -1, x -> x.number(0, -1));
            refusedAnywhere("number(24, 0)", -1, x -> x.number(24, 0));
        });
    }

    // ---- 5

    private void askHold() {
        section("Promise 5");
        sentence("An UNKNOWN is HELD, or not any more: true", () -> {
            for (int n : new int[] {1, 6, 24}) {
                OutOrder x = Tables.with(o -> o.table(n, 2));
                for (int u = 0; u < n; u++) {
                    due("hold(" + u + ", true)", x.hold(u, true), true);
                    due("HELD", x.status(3), u + 1);
                }
                for (int u = 0; u < n; u++) {
                    due("hold(" + u + ", false)", x.hold(u, false), true);
                    due("HELD", x.status(3), n - 1 - u);
                }
            }
        });
        sentence("false if it was so", () -> {
            OutOrder x = Tables.with(o -> o.table(24, 2));
            for (int u : new int[] {0, 23}) {
                due("not any more, of one that was not", x.hold(u, false), false);
                x.hold(u, true);
                due("HELD again", x.hold(u, true), false);
            }
            due("HELD", x.status(3), 2);
            x.hold(23, false);
            due("not any more, again", x.hold(23, false), false);
            due("HELD then", x.status(3), 1);
            noRefusal(x);
        });
        sentence("or there is none such.", this::holdNobody);
    }

    private void holdNobody() {
        for (int n : new int[] {1, 6, 24}) {
            for (int wrong : new int[] {-1, n, n + 1, 31, 32, LOW, HIGH}) {
                OutOrder x = Tables.with(o -> Tables.units(o, n));
                due("hold(" + wrong + ", true), " + n, x.hold(wrong, true), false);
                due("hold(" + wrong + ", false), " + n, x.hold(wrong, false), false);
                due("HELD", x.status(3), 0);
                due("order(3), as none is HELD", x.order(3), 0);
                noRefusal(x);
            }
            OutOrder all = Tables.with(o -> Tables.units(o, n));
            for (int u = 0; u < n; u++) {
                all.hold(u, true);
            }
            due("none such, all others HELD", all.hold(n, true), false);
            due("none such, all others HELD, not any more", all.hold(-1, false), false);
            due("all HELD", all.status(3), n);
        }
    }

    // ---- 6

    private void askOrder() {
        section("Promise 6");
        sentence("ORDER by a RULE: its FILLS.", () -> {
            for (int rule = 0; rule <= 6; rule++) {
                due("order(" + rule + ") of one alone", new OutOrder().order(rule), 0);
                int r = rule;
                due("order(" + rule + ") of 12, all JOINED", Tables.with(o -> Tables.fullOf(o, 12, 2)).order(r), 0);
                due("order(" + rule + ") of a ring of 12", Tables.with(o -> Tables.ringOf(o, 12, 2)).order(r), 9);
                due("order(" + rule + ") of a star of 12", Tables.with(o -> Tables.starOf(o, 12, 2)).order(r), rule == 0 ? 55 : 0);
            }
            for (int rule : new int[] {0, 1, 2, 3, 6}) {
                due("order(" + rule + ") of a ring of 24", Tables.with(o -> Tables.ringOf(o, 24, 2)).order(rule), 21);
                due("order(" + rule + ") of a star of 24", Tables.with(o -> Tables.starOf(o, 24, 2)).order(rule), rule == 0 ? 253 : 0);
            }
        });
        sentence("Nothing is WORKED then.", () -> {
            for (int rule = 0; rule <= 6; rule++) {
                OutOrder x = Tables.with(o -> Tables.units(o, 12));
                due("all WORKED", x.status(5), 12);
                x.order(rule);
                due("WORKED after order(" + rule + ")", x.status(5), 0);
                due("pivot(0) after order(" + rule + ")", x.pivot(0), -5);
                OutOrder y = Tables.with(Tables::stuck);
                y.order(rule);
                due("STUCK after order(" + rule + ")", y.status(6), -9);
                due("pivot(1) after order(" + rule + ")", y.pivot(1), -5);
            }
        });
        sentence("-2;", () -> {
            for (int rule : new int[] {-1, 7, 8, LOW, HIGH}) {
                refusedAnywhere("order(" + rule + ")", -2, x -> x.order(rule));
            }
        });
        sentence("-5 (3, 4, 5: one is HELD)", this::orderHeld);
        sentence("-6 (4, 5).", this::orderRoom);
    }

    private void orderHeld() {
        for (int rule = 3; rule <= 5; rule++) {
            int r = rule;
            for (int held : new int[] {0, 11}) {
                refused("order(" + rule + "), " + held + " HELD", x -> {
                    Tables.units(x, 12);
                    x.hold(held, true);
                }, -5, x -> x.order(r));
            }
            refused("order(" + rule + "), all 24 HELD", Boundaries::everything24, -5, x -> x.order(r));
            refused("order(" + rule + "), the only one HELD", x -> x.hold(0, true), -5, x -> x.order(r));
            OutOrder y = Tables.with(o -> Tables.units(o, 12));
            y.hold(11, true);
            y.hold(11, false);
            due("order(" + rule + "), not any more", y.order(rule), 0);
        }
        for (int rule : new int[] {0, 1, 2, 6}) {
            OutOrder z = Tables.with(Boundaries::everything24);
            due("order(" + rule + "), all 24 HELD", z.order(rule), 0);
            noRefusal(z);
        }
    }

    private void orderRoom() {
        for (int rule = 4; rule <= 5; rule++) {
            int r = rule;
            OutOrder x = Tables.with(o -> Tables.ringOf(o, 12, 2));
            due("order(" + rule + "), 12", x.order(rule), 9);
            noRefusal(x);
            refused("order(" + rule + "), 13", o -> Tables.ringOf(o, 13, 2), -6, o -> o.order(r));
            refused("order(" + rule + "), 24", o -> Tables.units(o, 24), -6, o -> o.order(r));
            OutOrder y = Tables.with(o -> Tables.ringOf(o, 13, 2));
            y.order(rule);
            Tables.ringOf(y, 12, 2);
            due("order(" + rule + "), 12 after 13", y.order(rule), 9);
        }
        for (int rule : new int[] {0, 1, 2, 3, 6}) {
            due("order(" + rule + "), 13", Tables.with(o -> Tables.ringOf(o, 13, 2)).order(rule), 10);
        }
    }

    // ---- 7

    private void askSwap() {
        section("Promise 7");
        sentence("The UNKNOWNS at two places of the ORDER change places: 1.", () -> {
            OutOrder one = new OutOrder();
            due("swap(0, 0) of one alone", one.swap(0, 0), 1);
            rowIs(one, 0);
            OutOrder x = Tables.with(o -> o.table(24, 2));
            due("swap(0, 23)", x.swap(0, 23), 1);
            due("at(0)", x.at(0), 23);
            due("at(23)", x.at(23), 0);
            due("the others stay", x.at(22), 22);
            due("swap(0, 22) goes by places", x.swap(0, 22), 1);
            due("at(22)", x.at(22), 23);
            due("column(23, 0)", x.column(23, 0), 22);
            due("swap(23, 23)", x.swap(23, 23), 1);
            due("at(23) stays", x.at(23), 0);
        });
        sentence("Nothing is WORKED then.", () -> {
            for (Tables.Setup setup : new Tables.Setup[] {Tables::rich, Tables::stuck, Tables::nought}) {
                for (int k = 0; k < 2; k++) {
                    OutOrder x = Tables.with(setup);
                    due("swap(0, " + k + ")", x.swap(0, k), 1);
                    due("WORKED", x.status(5), 0);
                    due("STUCK", x.status(6), -9);
                    due("pivot(0)", x.pivot(0), -5);
                    due("pivot(1)", x.pivot(1), -5);
                }
            }
        });
        sentence("-1.", () -> {
            ends("swap(i, 0)", (x, i) -> x.swap(i, 0), (n, i) -> 1);
            ends("swap(0, i)", (x, i) -> x.swap(0, i), (n, i) -> 1);
            ends("swap(i, i)", (x, i) -> x.swap(i, i), (n, i) -> 1);
            refusedAnywhere("swap(0, 24)", -1, x -> x.swap(0, 24));
            refusedAnywhere("swap(-1, 0)", -1, x -> x.swap(-1, 0));
        });
    }

    // ---- 8

    private void askAt() {
        section("Promise 8");
        sentence("The UNKNOWN at a place of the ORDER.", () -> {
            OutOrder x = Tables.with(o -> o.table(24, 2));
            x.order(6);
            due("the first place", x.at(0), 23);
            due("the last place", x.at(23), 0);
            due("of one alone", new OutOrder().at(0), 0);
        });
        sentence("-1.", () -> {
            ends("at(i)", OutOrder::at, (n, i) -> i);
            refusedAnywhere("at(-1)", -1, x -> x.at(-1));
            refusedAnywhere("at(24)", -1, x -> x.at(24));
        });
    }
}
