import java.math.BigInteger;

/** Promises 21 to 30: the WORK, what comes of it, the PLAN, and status. */
final class WorkBoundaries extends Boundaries {
    WorkBoundaries(Sentences sentences) {
        super(sentences);
    }

    @Override
    void ask() {
        askWork();
        askPivotAndOne();
        askWorth();
        askSide();
        askSolve();
        askInside();
        askPlan();
        askRound();
        askStatus();
        askDigest();
        askCounts();
    }

    /** Nothing WORKED, though it was: by each call that says so. */
    private void notWorked(String what, Twin.Call call) {
        refused(what + " of a new object", x -> { }, -5, call);
        refused(what + " of 24", x -> x.table(24, 2), -5, call);
        Tables.Setup[] changes = {
            o -> o.put(1, 1, 3), o -> o.order(0), o -> o.order(6), o -> o.swap(0, 0), o -> o.swap(0, 1), o -> o.table(2, 7),
        };
        for (int i = 0; i < changes.length; i++) {
            Tables.Setup change = changes[i];
            refused(what + " after change " + i, x -> {
                Tables.two(x);
                x.work();
                change.on(x);
            }, -5, call);
        }
    }

    // ---- 21

    private void askWork() {
        section("Promise 21");
        sentence("WORK: how many are WORKED.", () -> {
            due("one alone, 0", new OutOrder().work(), 1);
            due("24, all 0", Tables.with(o -> o.table(24, 2)).work(), 24);
            due("24 units", Tables.with(o -> Tables.units(o, 24)).work(), 24);
            due("nobody", Tables.with(o -> Tables.fullOf(o, 24, 2)).work(), 0);
            OutOrder x = Tables.with(o -> Tables.joined(o, 24, 2, new int[] {22, 23}));
            due("all but two", x.work(), 22);
            due("the same again", x.work(), 22);
            x.put(22, 22, 1);
            due("all", x.work(), 24);
            due("nobody is STUCK any more", x.status(6), -9);
            OutOrder y = Tables.with(Boundaries::everything24);
            due("HELD and OUT do not matter", y.work(), 24);
        });
    }

    // ---- 22, 23

    private void askPivotAndOne() {
        section("Promise 22");
        sentence("PIVOT(u) of the WORK; 0 of the STUCK one.", () -> {
            OutOrder x = Tables.with(o -> Tables.units(o, 24));
            due("the first", x.pivot(0), 1);
            due("the last", x.pivot(23), 24);
            due("STUCK after another one", Tables.with(Tables::stuck).pivot(1), 0);
            OutOrder first = Tables.with(o -> Tables.pathOf(o, 24, 2));
            first.work();
            due("STUCK at once", first.pivot(0), 0);
            due("a PIVOT 0, not STUCK", Tables.with(Tables::nought).pivot(1), 0);
            OutOrder y = Tables.with(o -> Tables.square(o, 32749, -1, 0, 0, LOW));
            y.work();
            due("the greatest", y.pivot(0), 32748);
            due("the least int", y.pivot(1), 32027);
        });
        sentence("-1;", () -> {
            ends("pivot(u)", OutOrder::pivot, (n, u) -> u + 1);
            refusedAnywhere("pivot(-1)", -1, x -> x.pivot(-1));
            refusedAnywhere("pivot(24)", -1, x -> x.pivot(24));
        });
        sentence("-5 another one that is not WORKED.", () -> {
            notWorked("pivot(0)", x -> x.pivot(0));
            refused("one later than the STUCK one", Tables::stuck, -5, x -> x.pivot(2));
            refused("the last one, 0 STUCK", WorkBoundaries::stuckAtOnce, -5, x -> x.pivot(23));
            refused("the one after the STUCK one", WorkBoundaries::stuckAtOnce, -5, x -> x.pivot(1));
        });
        section("Promise 23");
        sentence("1 for u itself; 0 for u ahead of v.", () -> {
            due("one alone", Tables.with(o -> o.work()).one(0, 0), 1);
            OutOrder x = Tables.with(o -> Tables.square(o, 7, 1, 2, 2, 3));
            x.work();
            due("one(0, 0)", x.one(0, 0), 1);
            due("one(1, 1)", x.one(1, 1), 1);
            due("one(0, 1), ahead", x.one(0, 1), 0);
            due("one(1, 0)", x.one(1, 0), 2);
            x.swap(0, 1);
            x.work();
            due("one(1, 0), ahead by the ORDER", x.one(1, 0), 0);
            due("one(0, 1)", x.one(0, 1), 3);
            due("one(1, 1) at a PIVOT 0", Tables.with(Tables::nought).one(1, 1), 1);
            due("one(0, 1) at a PIVOT 0", Tables.with(Tables::nought).one(0, 1), 0);
            due("u is STUCK", Tables.with(Tables::stuck).one(1, 0), 1);
            due("u is not WORKED", Tables.with(Tables::stuck).one(2, 0), 1);
        });
        sentence("-1;", () -> {
            ends("one(u, 0)", (x, u) -> x.one(u, 0), (n, u) -> u == 0 ? 1 : 0);
            ends("one(0, u)", (x, u) -> x.one(0, u), (n, u) -> u == 0 ? 1 : 0);
            ends("one(u, u)", (x, u) -> x.one(u, u), (n, u) -> 1);
            refusedAnywhere("one(24, 0)", -1, x -> x.one(24, 0));
            refusedAnywhere("one(0, -1)", -1, x -> x.one(0, -1));
        });
        sentence("-5 v is not WORKED.", () -> {
            notWorked("one(0, 0)", x -> x.one(0, 0));
            for (int u = 0; u < 3; u++) {
                int w = u;
                refused("one(" + u + ", 1), 1 being STUCK", Tables::stuck, -5, x -> x.one(w, 1));
                refused("one(" + u + ", 2), later than the STUCK one", Tables::stuck, -5, x -> x.one(w, 2));
            }
            refused("one(23, 23), 0 STUCK", WorkBoundaries::stuckAtOnce, -5, x -> x.one(23, 23));
        });
    }

    private static void stuckAtOnce(OutOrder x) {
        Tables.pathOf(x, 24, 2);
        x.work();
    }

    // ---- 24

    private void askWorth() {
        section("Promise 24");
        sentence("The product of all PIVOTS.", () -> {
            due("one alone, 0", Tables.with(o -> o.work()).worth(), 0);
            due("a PIVOT 0", Tables.with(Tables::nought).worth(), 0);
            OutOrder x = Tables.with(o -> o.table(24, 32749));
            for (int u = 0; u < 24; u++) {
                x.put(u, u, -1);
            }
            x.work();
            due("-1 to the power 24", x.worth(), 1);
            x.put(23, 23, 1);
            x.work();
            due("-1 to the power 23", x.worth(), 32748);
            x.put(0, 0, 0);
            x.work();
            due("the first is 0", x.worth(), 0);
            OutOrder two = Tables.with(o -> Tables.square(o, 2, 1, 1, 1, 0));
            two.work();
            due("modulo 2", two.worth(), 1);
        });
        sentence("-5 not all are WORKED.", () -> {
            notWorked("worth()", OutOrder::worth);
            refused("STUCK", Tables::stuck, -5, OutOrder::worth);
            refused("STUCK at once", WorkBoundaries::stuckAtOnce, -5, OutOrder::worth);
            refused("all but two", x -> {
                Tables.joined(x, 24, 2, new int[] {22, 23});
                x.work();
            }, -5, OutOrder::worth);
        });
    }

    // ---- 25

    private void askSide() {
        section("Promise 25");
        sentence("The right side of an UNKNOWN becomes v modulo P: what it was.", () -> {
            for (int i = 0; i < TableBoundaries.PRIMES.length; i++) {
                sideWrapped(TableBoundaries.PRIMES[i], i + 1, 0);
                sideWrapped(TableBoundaries.PRIMES[i], i + 1, 23);
            }
            OutOrder x = Tables.with(Boundaries::everything24);
            due("side(0, 5)", x.side(0, 5), 2);
            due("WORKED stays", x.status(5), 24);
            due("solve(0)", x.solve(0), 5);
        });
        sentence("-1.", () -> {
            ends("side(u, 1)", (x, u) -> x.side(u, 1), (n, u) -> 2 * (u + 1));
            refusedAnywhere("side(-1, 1)", -1, x -> x.side(-1, 1));
            refusedAnywhere("side(24, 1)", -1, x -> x.side(24, 1));
        });
    }

    private void sideWrapped(int p, int column, int u) {
        OutOrder x = Tables.with(o -> o.table(24, p));
        for (int w = 0; w < 24; w++) {
            x.put(w, w, 1);
        }
        x.work();
        int before = 0;
        for (int[] row : TableBoundaries.WRAPPED) {
            String call = "side(" + u + ", " + row[0] + ") modulo " + p;
            due(call, x.side(u, row[0]), before);
            due(call + ", then solve", x.solve(u), row[column]);
            due(call + ", then solve of another one", x.solve(23 - u), 0);
            before = row[column];
        }
    }

    // ---- 26

    private void askSolve() {
        section("Promise 26");
        sentence("so that for each one the sum of its numbers with all, times these, is its right side.", () -> {
            OutOrder one = Tables.with(o -> o.put(0, 0, -1));
            one.work();
            due("a right side 0", one.solve(0), 0);
            one.side(0, LOW);
            due("one alone, the least int less", one.solve(0), 722);
            due("24 units, the first", Tables.with(o -> Tables.units(o, 24)).solve(0), 2);
            due("24 units, the last", Tables.with(o -> Tables.units(o, 24)).solve(23), 2);
            OutOrder two = Tables.with(o -> Tables.square(o, 2, 1, 1, 1, 0));
            two.side(0, 1);
            two.work();
            due("modulo 2", two.solve(0), 0);
            due("modulo 2", two.solve(1), 1);
            sumsOfRing();
        });
        sentence("-1;", () -> {
            ends("solve(u)", OutOrder::solve, (n, u) -> 2);
            refusedAnywhere("solve(-1)", -1, x -> x.solve(-1));
            refusedAnywhere("solve(24)", -1, x -> x.solve(24));
        });
        sentence("-5 not all are WORKED, or a PIVOT is 0.", () -> {
            notWorked("solve(0)", x -> x.solve(0));
            cannotDivide("solve(0)", x -> x.solve(0));
        });
    }

    /** The greatest numbers all round; the ORDER turned about does not matter. */
    private void sumsOfRing() {
        OutOrder x = Tables.with(o -> o.table(24, 32749));
        for (int u = 0; u < 24; u++) {
            x.put(u, u, -3);
            x.put(u, (u + 1) % 24, -1);
            x.side(u, -1 - u);
        }
        x.order(6);
        due("work()", x.work(), 24);
        long[] what = new long[24];
        for (int u = 0; u < 24; u++) {
            what[u] = x.solve(u);
        }
        for (int u = 0; u < 24; u++) {
            long sum = 3 * what[u] + what[(u + 1) % 24] + what[(u + 23) % 24];
            due("the sum of " + u, (int) (sum % 32749), u + 1);
        }
    }

    private void cannotDivide(String what, Twin.Call call) {
        refused(what + ", STUCK", Tables::stuck, -5, call);
        refused(what + ", STUCK at once", WorkBoundaries::stuckAtOnce, -5, call);
        refused(what + ", the last PIVOT 0", Tables::nought, -5, call);
        refused(what + ", the only PIVOT 0", x -> x.work(), -5, call);
        refused(what + ", the first PIVOT 0", x -> {
            Tables.square(x, 7, 0, 0, 0, 3);
            x.work();
        }, -5, call);
        refused(what + ", all of 24 PIVOTS 0", x -> {
            x.table(24, 2);
            x.work();
        }, -5, call);
    }

    // ---- 27

    private void askInside() {
        section("Promise 27");
        sentence("What the first of two would be if the right side of the second were 1 and all others 0.", () -> {
            OutOrder one = Tables.with(o -> o.put(0, 0, -1));
            one.side(0, 5);
            one.work();
            due("one alone", one.inside(0, 0), 32748);
            due("its right side stays", one.side(0, 5), 5);
            OutOrder x = Tables.with(o -> o.table(24, 32749));
            for (int u = 0; u < 24; u++) {
                x.put(u, u, 1);
            }
            x.put(0, 23, 2);
            x.work();
            due("inside(0, 23)", x.inside(0, 23), 10917);
            due("inside(23, 0)", x.inside(23, 0), 10917);
            due("inside(23, 23)", x.inside(23, 23), 10916);
            due("inside(0, 0)", x.inside(0, 0), 10916);
            due("inside(1, 23)", x.inside(1, 23), 0);
            due("inside(22, 22)", x.inside(22, 22), 1);
        });
        sentence("-1;", () -> {
            ends("inside(u, 0)", (x, u) -> x.inside(u, 0), (n, u) -> u == 0 ? 1 : 0);
            ends("inside(0, u)", (x, u) -> x.inside(0, u), (n, u) -> u == 0 ? 1 : 0);
            refusedAnywhere("inside(-1, 0)", -1, x -> x.inside(-1, 0));
            refusedAnywhere("inside(0, 24)", -1, x -> x.inside(0, 24));
            refusedAnywhere("inside(24, -1)", -1, x -> x.inside(24, -1));
        });
        sentence("-5 as solve().", () -> {
            notWorked("inside(0, 0)", x -> x.inside(0, 0));
            cannotDivide("inside(0, 0)", x -> x.inside(0, 0));
        });
    }

    // ---- 28, 29

    private void askPlan() {
        section("Promise 28");
        sentence("PLAN for hands: how many ROUNDS.", () -> {
            due("one alone, one hand", new OutOrder().plan(1), 1);
            due("one alone, 24 hands", new OutOrder().plan(24), 1);
            OutOrder alone = Tables.with(o -> o.table(24, 2));
            int[][] plans = {{1, 24}, {2, 12}, {11, 3}, {12, 2}, {23, 2}, {24, 1}};
            for (int[] p : plans) {
                due("plan(" + p[0] + "), none JOINED", alone.plan(p[0]), p[1]);
                due("plan(" + p[0] + "), all JOINED", Tables.with(o -> Tables.fullOf(o, 24, 2)).plan(p[0]), 24);
            }
            OutOrder star = Tables.with(o -> Tables.starOf(o, 24, 2));
            star.swap(0, 23);
            due("plan(24), the middle last", star.plan(24), 2);
            due("plan(23), the middle last", star.plan(23), 2);
            due("plan(22), the middle last", star.plan(22), 3);
            due("plan(1), the middle last", star.plan(1), 24);
            noRefusal(star);
        });
        sentence("-4 below 1", () -> {
            for (int hands : new int[] {0, -1, LOW}) {
                refusedAnywhere("plan(" + hands + ")", -4, x -> x.plan(hands));
            }
        });
        sentence("-6 above 24.", () -> {
            for (int hands : new int[] {25, 26, 32, HIGH}) {
                refusedAnywhere("plan(" + hands + ")", -6, x -> x.plan(hands));
            }
        });
    }

    private void askRound() {
        section("Promise 29");
        sentence("In which ROUND of the PLAN for hands an UNKNOWN is.", () -> {
            due("one alone, one hand", new OutOrder().round(1, 0), 0);
            due("one alone, 24 hands", new OutOrder().round(24, 0), 0);
            OutOrder alone = Tables.with(o -> o.table(24, 2));
            due("the first, one hand", alone.round(1, 0), 0);
            due("the last, one hand", alone.round(1, 23), 23);
            due("the last, 23 hands", alone.round(23, 23), 1);
            due("the last but one, 23 hands", alone.round(23, 22), 0);
            due("the last, 24 hands", alone.round(24, 23), 0);
            OutOrder path = Tables.with(o -> Tables.pathOf(o, 24, 2));
            due("the last of a row, 24 hands", path.round(24, 23), 23);
            path.order(6);
            due("turned about", path.round(24, 23), 0);
        });
        sentence("-1;", () -> {
            for (int hands : new int[] {0, 1, 24, 25, LOW, HIGH}) {
                boolean fine = hands == 1 || hands == 24;
                for (int n : new int[] {1, 6, 24}) {
                    for (int wrong : new int[] {-1, n, n + 1, 32, LOW, HIGH}) {
                        refused("round(" + hands + ", " + wrong + "), " + n, x -> Tables.units(x, n), -1, x -> x.round(hands, wrong));
                    }
                    due("round(" + hands + ", 0), " + n, Tables.with(x -> Tables.units(x, n)).round(hands, 0), fine ? 0 : hands < 1 ? -4 : -6);
                    due("round(" + hands + ", last), " + n, Tables.with(x -> Tables.units(x, n)).round(hands, n - 1),
                            hands == 1 ? n - 1 : fine ? 0 : hands < 1 ? -4 : -6);
                }
            }
        });
        sentence("-4;", () -> {
            for (int hands : new int[] {0, -1, LOW}) {
                refusedAnywhere("round(" + hands + ", 0)", -4, x -> x.round(hands, 0));
            }
        });
        sentence("-6.", () -> {
            for (int hands : new int[] {25, 26, 32, HIGH}) {
                refusedAnywhere("round(" + hands + ", 0)", -6, x -> x.round(hands, 0));
            }
        });
    }

    // ---- 30

    private void statusIs(String what, int status, Tables.Setup setup, int want) {
        due("status(" + status + "), " + what, Tables.with(setup).status(status), want);
    }

    private void askStatus() {
        section("Promise 30");
        sentence("0 UNKNOWNS, 1 P", () -> {
            statusIs("a new object", 0, x -> { }, 1);
            statusIs("24", 0, x -> x.table(24, 2), 24);
            statusIs("a new object", 1, x -> { }, 32749);
            statusIs("P 2", 1, x -> x.table(24, 2), 2);
        });
        sentence("2 pairs that are JOINED", () -> {
            statusIs("a new object", 2, x -> { }, 0);
            statusIs("with itself", 2, x -> x.put(0, 0, 1), 0);
            statusIs("24 units", 2, x -> Tables.units(x, 24), 0);
            statusIs("one pair", 2, x -> Tables.joined(x, 24, 2, new int[] {23, 22}), 1);
            statusIs("all", 2, x -> Tables.fullOf(x, 24, 2), 276);
            statusIs("none after all", 2, x -> {
                Tables.fullOf(x, 24, 2);
                x.table(24, 2);
            }, 0);
            statusIs("FILLS do not count", 2, x -> {
                Tables.starOf(x, 24, 2);
                x.out(0);
            }, 23);
        });
        sentence("3 HELD ones, 4 OUT in GOING, 5 WORKED", () -> {
            for (int what = 3; what <= 5; what++) {
                statusIs("a new object", what, x -> { }, 0);
                statusIs("all", what, Boundaries::everything24, 24);
                statusIs("none after all", what, x -> {
                    everything24(x);
                    x.table(24, 2);
                }, 0);
            }
        });
        sentence("6 the STUCK one (-9)", () -> {
            statusIs("a new object", 6, x -> { }, -9);
            statusIs("all WORKED", 6, Boundaries::everything24, -9);
            statusIs("a PIVOT 0", 6, Tables::nought, -9);
            statusIs("0", 6, WorkBoundaries::stuckAtOnce, 0);
            statusIs("another one", 6, Tables::stuck, 1);
            Tables.Setup[] changes = {o -> o.put(0, 0, 1), o -> o.order(0), o -> o.swap(0, 0), o -> o.table(3, 7)};
            for (int i = 0; i < changes.length; i++) {
                Tables.Setup change = changes[i];
                statusIs("nobody after change " + i, 6, x -> {
                    Tables.stuck(x);
                    change.on(x);
                }, -9);
            }
            OutOrder x = Tables.with(o -> Tables.joined(o, 24, 2, new int[] {22, 23}));
            x.swap(22, 23);
            x.work();
            due("the last one", x.status(6), 23);
            noRefusal(x);
        });
    }

    private void askDigest() {
        sentence("7 numbers of the TABLE as one: v becomes 31 times v and that, by UNKNOWNS, then UNKNOWNS, v being 0 at first", () -> {
            statusIs("a new object", 7, x -> { }, 0);
            statusIs("one number", 7, x -> x.put(0, 0, 5), 5);
            statusIs("24, all 0", 7, x -> x.table(24, 2), 0);
            statusIs("the last number", 7, x -> {
                x.table(24, 7);
                x.put(23, 23, 6);
            }, 6);
            statusIs("1, 2, 2, 3", 7, Tables::two, ((31 + 2) * 31 + 2) * 31 + 3);
            statusIs("both ways about", 7, x -> Tables.joined(x, 2, 7, new int[] {0, 1}), 31 * 31 + 31);
            statusIs("right sides, HELD and OUT ones do not count", 7, x -> {
                x.table(1, 7);
                x.side(0, 3);
                x.hold(0, true);
                x.out(0);
            }, 0);
        });
        sentence("(an int that goes round)", () -> {
            // 31 to the power 7, 27512614111, is above the greatest int: less 6 times 2 to the power 32.
            int power7 = (int) (27512614111L - 6 * 4294967296L);
            statusIs("the last number alone", 7, x -> Tables.square(x, 7, 0, 0, 0, 0, 0, 0, 0, 0, 1), 1);
            statusIs("0 1 0 1 0 0 0 0 0", 7, x -> Tables.joined(x, 3, 7, new int[] {0, 1}), power7 + 31 * 31 * 31 * 31 * 31);
            OutOrder x = Tables.with(o -> o.table(24, 32749));
            BigInteger sum = BigInteger.ZERO;
            for (int u = 0; u < 24; u++) {
                x.put(u, u, -1 - u);
                x.put(u, (u + 1) % 24, LOW);
            }
            for (int i = 0; i < 24 * 24; i++) {
                int apart = Math.floorMod(i / 24 - i % 24, 24);
                int number = apart == 0 ? 32748 - i / 24 : apart == 1 || apart == 23 ? 32027 : 0;
                sum = sum.multiply(BigInteger.valueOf(31)).add(BigInteger.valueOf(number));
            }
            due("24 UNKNOWNS, the greatest numbers", x.status(7), sum.intValue());
        });
    }

    private void askCounts() {
        sentence("11 .. 16 REFUSALS -1 .. -6.", () -> {
            OutOrder x = Tables.with(Tables::rich);
            Twin.Call[] wrong = {y -> y.at(-1), y -> y.order(7), y -> y.out(2), y -> y.plan(0), y -> y.order(3), y -> y.plan(25)};
            noRefusal(x);
            for (int k = 1; k <= 6; k++) {
                for (int i = 0; i < 10 * k; i++) {
                    wrong[k - 1].on(x);
                }
            }
            for (int k = 1; k <= 6; k++) {
                due("status(" + (10 + k) + ")", x.status(10 + k), 10 * k);
            }
            x.begin();
            x.put(0, 0, 1);
            x.table(1, 2);
            for (int k = 1; k <= 6; k++) {
                due("status(" + (10 + k) + ") of a new TABLE", x.status(10 + k), 10 * k);
            }
            noRefusal(new OutOrder());
        });
        sentence("-9 for another what.", () -> {
            for (int what : new int[] {-1, -9, -11, 8, 9, 10, 17, 18, 24, LOW, HIGH}) {
                statusIs("a new object", what, x -> { }, -9);
                statusIs("24", what, Boundaries::everything24, -9);
            }
            OutOrder x = new OutOrder();
            x.status(8);
            x.status(-1);
            x.status(17);
            noRefusal(x);
        });
    }
}
