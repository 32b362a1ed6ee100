/** Promise by promise: ordinary calls, the edges that the document names, and wrong calls. */
public final class PromisesTest {
    private static final int LOW = Integer.MIN_VALUE;
    private static final int HIGH = Integer.MAX_VALUE;

    private final Checks checks = new Checks();
    private String promise = "";

    public static void main(String[] args) {
        PromisesTest test = new PromisesTest();
        test.newObject();
        test.table();
        test.put();
        test.number();
        test.hold();
        test.order();
        test.leastOrders();
        test.swap();
        test.at();
        test.fills();
        test.fill();
        test.column();
        test.width();
        test.group();
        test.isClean();
        test.ring();
        test.least();
        test.begin();
        test.out();
        test.going();
        test.kinds();
        test.back();
        test.work();
        test.pivot();
        test.one();
        test.worth();
        test.side();
        test.solve();
        test.inside();
        test.plan();
        test.round();
        test.status();
        test.checks.end();
    }

    // ---- ways of checking

    private void due(String what, int got, int want) {
        checks.due(promise + ": " + what, got, want);
    }

    private void due(String what, boolean got, boolean want) {
        checks.due(promise + ": " + what, got, want);
    }

    private void rowIs(OutOrder x, int... unknowns) {
        for (int i = 0; i < unknowns.length; i++) {
            due("at(" + i + ")", x.at(i), unknowns[i]);
        }
    }

    private void refused(String what, Tables.Setup setup, int want, Twin.Call wrong) {
        Twin.refused(checks, promise + ": " + what, setup, want, wrong);
    }

    private interface Asked {
        int on(OutOrder x, int u);
    }

    private void nobody(Tables.Setup setup, String name, Asked call) {
        int n = with(setup).status(0);
        for (int wrong : new int[] {-1, n, n + 1, LOW, HIGH, 24, 32}) {
            refused(name + " of " + wrong, setup, -1, y -> call.on(y, wrong));
        }
    }

    private static OutOrder with(Tables.Setup setup) {
        return Tables.with(setup);
    }

    // ---- promise by promise

    private void newObject() {
        promise = "1 OutOrder";
        OutOrder x = new OutOrder();
        int[] fresh = {1, 32749, 0, 0, 0, 0, -9, 0, -9, -9, -9, 0, 0, 0, 0, 0, 0, -9};
        for (int what = 0; what < fresh.length; what++) {
            due("status(" + what + ")", x.status(what), fresh[what]);
        }
        due("at(0)", x.at(0), 0);
        due("number(0, 0)", x.number(0, 0), 0);
        due("back()", x.back(), -9);
        due("going(0, 0)", x.going(0, 0), 3);
        due("side(0, 4)", x.side(0, 4), 0);
        due("pivot(0)", x.pivot(0), -5);
        due("put(0, 0, -1)", x.put(0, 0, -1), 0);
        due("number(0, 0) then", x.number(0, 0), 32748);
    }

    private void table() {
        promise = "2 table";
        for (int[] fine : new int[][] {{1, 2}, {24, 2}, {1, 32749}, {24, 32749}, {12, 3}, {5, 32719}, {2, 181}}) {
            OutOrder x = new OutOrder();
            due("table(" + fine[0] + ", " + fine[1] + ")", x.table(fine[0], fine[1]), 1);
            due("status(0)", x.status(0), fine[0]);
            due("status(1)", x.status(1), fine[1]);
        }
        OutOrder x = with(Tables::rich);
        x.at(6);
        due("table(6, 5)", x.table(6, 5), 1);
        int[] fresh = {6, 5, 0, 0, 0, 0, -9, 0};
        for (int what = 0; what < fresh.length; what++) {
            due("status(" + what + ") then", x.status(what), fresh[what]);
        }
        due("refusals stay", x.status(11), 1);
        rowIs(x, 0, 1, 2, 3, 4, 5);
        for (int u = 0; u < 6; u++) {
            due("side then", x.side(u, 1), 0);
            due("going then", x.going(u, 0), 3);
            due("hold then", x.hold(u, false), false);
        }
        due("pivot then", x.pivot(0), -5);
        due("back then", x.back(), -9);
        OutOrder y = with(Tables::stuck);
        y.table(3, 7);
        due("no longer STUCK", y.status(6), -9);
        y.put(0, 1, 1);
        y.table(2, 7);
        y.table(3, 7);
        due("a number that was out of sight", y.number(0, 1), 0);
        tableRefusals();
    }

    private void tableRefusals() {
        int[][] wrong = {
            {0, 7, -4}, {-1, 7, -4}, {LOW, 7, -4}, {5, 1, -4}, {5, 0, -4}, {5, -7, -4}, {5, LOW, -4},
            {0, 32750, -4}, {25, 1, -4}, {0, 4, -4}, {HIGH, LOW, -4}, {LOW, HIGH, -4},
            {25, 7, -6}, {HIGH, 7, -6}, {5, 32750, -6}, {5, HIGH, -6}, {25, 4, -6}, {25, 32750, -6},
            {5, 4, -2}, {5, 9, -2}, {1, 32748, -2}, {24, 32743, -2}, {5, 32041, -2}, {5, 6, -2}, {5, 25, -2},
        };
        for (int[] w : wrong) {
            refused("table(" + w[0] + ", " + w[1] + ")", Tables::rich, w[2], x -> x.table(w[0], w[1]));
        }
    }

    private void put() {
        promise = "3 put";
        OutOrder x = new OutOrder();
        x.table(24, 7);
        due("put(0, 23, 10)", x.put(0, 23, 10), 0);
        due("put(23, 0, -1)", x.put(23, 0, -1), 3);
        due("put(0, 23, LOW)", x.put(0, 23, LOW), 6);
        due("put(0, 23, HIGH)", x.put(0, 23, HIGH), 5);
        due("put(0, 23, 7)", x.put(0, 23, 7), 1);
        due("not JOINED then", x.status(2), 0);
        due("put(23, 23, 5)", x.put(23, 23, 5), 0);
        due("with itself it is not JOINED", x.status(2), 0);
        due("put(0, 23, 1)", x.put(0, 23, 1), 0);
        due("JOINED", x.status(2), 1);
        due("number(23, 0)", x.number(23, 0), 1);
        OutOrder y = with(Tables::rich);
        due("put of the same", y.put(0, 3, 1), 1);
        due("nothing is WORKED then", y.status(5), 0);
        due("GOING begins then", y.status(4), 0);
        due("HELD stays", y.status(3), 1);
        due("the ORDER stays", y.at(5), 5);
        due("the right side stays", y.side(1, 0), 8);
        OutOrder z = with(Tables::stuck);
        z.put(0, 0, 1);
        due("nobody is STUCK then", z.status(6), -9);
        due("fills before", z.fills(), 1);
        z.put(1, 2, 1);
        due("fills are of the numbers now", z.fills(), 0);
        z.put(0, 1, 0);
        due("order by new numbers", z.order(6), 1);
        due("going by new numbers", z.going(0, 2), 4);
        nobody(Tables::rich, "put(u, ..)", (o, u) -> o.put(u, 0, 1));
        nobody(Tables::rich, "put(.., u)", (o, u) -> o.put(5, u, 1));
    }

    private void number() {
        promise = "4 number";
        OutOrder x = new OutOrder();
        x.table(24, 32749);
        x.put(0, 23, -1);
        x.put(23, 23, 32749 + 5);
        x.put(0, 0, 32748);
        due("number(0, 23)", x.number(0, 23), 32748);
        due("number(23, 0)", x.number(23, 0), 32748);
        due("number(23, 23)", x.number(23, 23), 5);
        due("number(0, 0)", x.number(0, 0), 32748);
        due("number(1, 2)", x.number(1, 2), 0);
        nobody(Tables::rich, "number(u, ..)", (o, u) -> o.number(u, 0));
        nobody(Tables::rich, "number(.., u)", (o, u) -> o.number(5, u));
    }

    private void hold() {
        promise = "5 hold";
        OutOrder x = new OutOrder();
        x.table(24, 2);
        for (int u : new int[] {0, 23}) {
            due("not any more, of one that was not", x.hold(u, false), false);
            due("hold", x.hold(u, true), true);
            due("hold again", x.hold(u, true), false);
        }
        due("HELD", x.status(3), 2);
        due("not any more", x.hold(0, false), true);
        due("not any more, again", x.hold(0, false), false);
        due("HELD then", x.status(3), 1);
        for (int wrong : new int[] {-1, 24, 32, LOW, HIGH}) {
            due("hold(" + wrong + ", true)", x.hold(wrong, true), false);
            due("hold(" + wrong + ", false)", x.hold(wrong, false), false);
        }
        due("HELD at last", x.status(3), 1);
        due("no REFUSAL", x.status(11), 0);
        OutOrder y = with(Tables::rich);
        y.hold(1, true);
        due("WORK stays", y.status(5), 6);
        due("GOING stays", y.status(4), 2);
    }

    private void order() {
        promise = "6 order";
        OutOrder x = new OutOrder();
        x.table(4, 7);
        x.swap(1, 2);
        x.hold(0, true);
        x.hold(2, true);
        due("order(0)", x.order(0), 0);
        rowIs(x, 1, 3, 0, 2);
        due("order(6) with HELD ones", x.order(6), 0);
        rowIs(x, 2, 0, 3, 1);
        for (int u = 0; u < 4; u++) {
            x.hold(u, true);
        }
        due("order(0), all HELD", x.order(0), 0);
        rowIs(x, 0, 1, 2, 3);
        starOrders();
        cliqueAndRingOrders();
        searchOrders();
        OutOrder y = with(Tables::rich);
        due("order(0) of rich", y.order(0), 4);
        due("nothing is WORKED then", y.status(5), 0);
        due("GOING stays", y.status(4), 2);
        OutOrder z = with(Tables::stuck);
        z.order(6);
        due("nobody is STUCK then", z.status(6), -9);
        OutOrder big = with(o -> Tables.ringOf(o, 24, 2));
        due("order(6), 24", big.order(6), 21);
        due("at(0)", big.at(0), 23);
        due("order(2), 24", big.order(2), 21);
        due("order(3), 24", big.order(3), 21);
        orderRefusals();
    }

    private void starOrders() {
        OutOrder x = with(o -> Tables.starOf(o, 5, 3));
        due("order(0) of a star", x.order(0), 6);
        due("order(1) of a star", x.order(1), 0);
        rowIs(x, 1, 2, 3, 0, 4);
        x.hold(1, true);
        due("order(1), 1 HELD", x.order(1), 0);
        rowIs(x, 2, 3, 4, 0, 1);
        x.hold(2, true);
        x.hold(3, true);
        x.hold(4, true);
        due("order(2), the middle free alone", x.order(2), 6);
        rowIs(x, 0, 1, 2, 3, 4);
        due("order(6) of that", x.order(6), 0);
    }

    private void cliqueAndRingOrders() {
        OutOrder x = new OutOrder();
        x.table(8, 7);
        for (int[] pair : new int[][] {{0, 1}, {0, 2}, {0, 3}, {1, 2}, {1, 3}, {2, 3}, {4, 5}, {5, 6}, {6, 7}, {7, 4}}) {
            x.put(pair[0], pair[1], 1);
        }
        due("order(1)", x.order(1), 1);
        rowIs(x, 4, 5, 6, 7, 0, 1, 2, 3);
        due("order(2)", x.order(2), 1);
        rowIs(x, 0, 1, 2, 3, 4, 5, 6, 7);
        due("order(4)", x.order(4), 1);
        rowIs(x, 0, 1, 2, 3, 4, 5, 6, 7);
    }

    private void searchOrders() {
        OutOrder x = with(Tables::six);
        due("order(3) of six", x.order(3), 2);
        rowIs(x, 5, 4, 3, 2, 1, 0);
        x.table(4, 7);
        x.put(0, 2, 1);
        x.put(2, 3, 1);
        due("order(3), 1 alone", x.order(3), 0);
        rowIs(x, 1, 3, 2, 0);
        x.table(1, 2);
        due("order(3) of one", x.order(3), 0);
        // By numbers alone 4 and 5 are JOINED with one of those placed; a FILL would tell otherwise.
        x.table(6, 7);
        for (int[] pair : new int[][] {{0, 1}, {0, 2}, {1, 3}, {2, 4}, {3, 5}}) {
            x.put(pair[0], pair[1], 1);
        }
        due("order(3) of a path", x.order(3), 0);
        rowIs(x, 5, 4, 3, 2, 1, 0);
    }

    private void orderRefusals() {
        for (int wrong : new int[] {-1, 7, 8, LOW, HIGH}) {
            refused("order(" + wrong + ")", Tables::rich, -2, x -> x.order(wrong));
        }
        Tables.Setup thirteen = o -> Tables.ringOf(o, 13, 2);
        Tables.Setup thirteenHeld = o -> {
            Tables.ringOf(o, 13, 2);
            o.hold(12, true);
        };
        for (int rule = 3; rule <= 5; rule++) {
            int r = rule;
            refused("order(" + r + "), one HELD", Tables::rich, -5, x -> x.order(r));
            refused("order(" + r + "), 13 and one HELD", thirteenHeld, -5, x -> x.order(r));
        }
        refused("order(7), 13 and one HELD", thirteenHeld, -2, x -> x.order(7));
        refused("order(4), 13", thirteen, -6, x -> x.order(4));
        refused("order(5), 13", thirteen, -6, x -> x.order(5));
        refused("order(5), 24", o -> Tables.ringOf(o, 24, 2), -6, x -> x.order(5));
        for (int rule : new int[] {0, 1, 2, 6}) {
            due("order(" + rule + "), 13 and one HELD", with(thirteenHeld).order(rule), 10);
        }
        due("order(3), 13", with(thirteen).order(3), 10);
    }

    private void leastOrders() {
        promise = "6 order, RULES 4 and 5";
        OutOrder x = with(o -> Tables.ringOf(o, 12, 32749));
        due("order(4), 12", x.order(4), 9);
        rowIs(x, 0, 1, 2, 3, 4, 5, 6, 7, 8, 9, 10, 11);
        x.order(6);
        due("order(5), 12", x.order(5), 9);
        rowIs(x, 0, 1, 2, 3, 4, 5, 6, 7, 8, 9, 10, 11);
        x.table(1, 2);
        due("order(4), 1", x.order(4), 0);
        due("order(5), 1", x.order(5), 0);
        // WIDTH 3 is due to the four; so 4 may go before 5 and 6, which LEAST FILL does not allow.
        x.table(7, 7);
        for (int[] pair : new int[][] {{0, 1}, {0, 2}, {0, 3}, {1, 2}, {1, 3}, {2, 3}, {4, 5}, {4, 6}}) {
            x.put(pair[0], pair[1], 1);
        }
        due("order(5)", x.order(5), 1);
        rowIs(x, 0, 1, 2, 3, 4, 5, 6);
        due("order(4)", x.order(4), 0);
        rowIs(x, 0, 1, 2, 3, 5, 4, 6);
        x.put(4, 5, 0);
        due("order(4) by numbers now", x.order(4), 0);
        rowIs(x, 0, 1, 2, 3, 4, 5, 6);
        OutOrder star = with(o -> Tables.starOf(o, 12, 2));
        due("order(4) of a star", star.order(4), 0);
        rowIs(star, 1, 2, 3, 4, 5, 6, 7, 8, 9, 10, 0, 11);
        due("order(5) of a star", star.order(5), 0);
        rowIs(star, 1, 2, 3, 4, 5, 6, 7, 8, 9, 10, 0, 11);
    }

    private void swap() {
        promise = "7 swap";
        OutOrder x = new OutOrder();
        x.table(24, 2);
        due("swap(0, 23)", x.swap(0, 23), 1);
        due("at(0)", x.at(0), 23);
        due("at(23)", x.at(23), 0);
        due("column(23, 0)", x.column(23, 0), 0);
        due("swap(0, 1) goes by places", x.swap(0, 1), 1);
        rowIs(x, 1, 23, 2);
        due("swap(2, 2)", x.swap(2, 2), 1);
        rowIs(x, 1, 23, 2);
        OutOrder y = with(Tables::rich);
        due("swap of one with itself", y.swap(0, 0), 1);
        due("nothing is WORKED then", y.status(5), 0);
        due("GOING stays", y.status(4), 2);
        OutOrder z = with(Tables::six);
        due("fills before", z.fills(), 4);
        z.swap(5, 0);
        due("fills after", z.fills(), 2);
        nobody(Tables::rich, "swap(i, ..)", (o, i) -> o.swap(i, 0));
        nobody(Tables::rich, "swap(.., i)", (o, i) -> o.swap(5, i));
    }

    private void at() {
        promise = "8 at";
        OutOrder x = new OutOrder();
        due("at(0) of one", x.at(0), 0);
        x.table(24, 2);
        x.order(6);
        for (int i = 0; i < 24; i++) {
            due("at(" + i + ")", x.at(i), 23 - i);
        }
        nobody(Tables::rich, "at", OutOrder::at);
    }

    private void fills() {
        promise = "9 fills";
        due("of one", new OutOrder().fills(), 0);
        due("of six", with(Tables::six).fills(), 4);
        due("of a star of 24", with(o -> Tables.starOf(o, 24, 2)).fills(), 253);
        due("of all JOINED", with(o -> Tables.fullOf(o, 24, 2)).fills(), 0);
        due("of a ring of 4", with(o -> Tables.ringOf(o, 4, 3)).fills(), 1);
        OutOrder x = with(o -> Tables.starOf(o, 5, 2));
        x.hold(0, true);
        x.out(1);
        due("HELD and OUT do not matter", x.fills(), 6);
        x.put(0, 1, 0);
        due("numbers do", x.fills(), 3);
    }

    private void fill() {
        promise = "10 fill";
        OutOrder x = with(Tables::six);
        int[] due = {35, 37, 101, 69};
        for (int i = 0; i < due.length; i++) {
            due("fill(" + i + ")", x.fill(i), due[i]);
        }
        for (int wrong : new int[] {-1, 4, 5, 276, 288, LOW, HIGH}) {
            due("fill(" + wrong + ")", x.fill(wrong), -9);
        }
        for (int k = 1; k <= 6; k++) {
            due("no REFUSAL", x.status(10 + k), 0);
        }
        x.swap(0, 5);
        due("fill(0) of another ORDER", x.fill(0), 4);
        due("fill(1) of another ORDER", x.fill(1), 2);
        due("fill(2) of another ORDER", x.fill(2), -9);
        OutOrder star = with(o -> Tables.starOf(o, 24, 2));
        due("the first of 253", star.fill(0), 34);
        due("fill(21)", star.fill(21), 55);
        due("fill(22)", star.fill(22), 67);
        due("the last of 253", star.fill(252), 727);
        due("none after it", star.fill(253), -9);
        OutOrder ring = with(o -> Tables.ringOf(o, 24, 2));
        due("ring, the first", ring.fill(0), 55);
        due("ring, the last", ring.fill(20), 695);
        due("of one", new OutOrder().fill(0), -9);
    }

    private void column() {
        promise = "11 column";
        OutOrder x = with(Tables::six);
        x.swap(0, 5);
        int[][] due = {
            {5, 0, -9, 0, 0, 1}, {1, 2, 2, 5, 4, 0}, {2, 2, 3, 9, 3, 1},
            {3, 2, 4, 17, 2, 1}, {4, 1, 0, 1, 1, 2}, {0, 2, 4, 17, 2, 0},
        };
        for (int u = 0; u < 6; u++) {
            for (int what = 0; what < 6; what++) {
                due("column(" + u + ", " + what + ")", x.column(u, what), due[u][what]);
            }
        }
        for (int wrong : new int[] {-1, 6, 7, LOW, HIGH}) {
            due("column(0, " + wrong + ")", x.column(0, wrong), -9);
        }
        due("no REFUSAL", x.status(11), 0);
        OutOrder star = with(o -> Tables.starOf(o, 24, 2));
        due("BEHIND the first of 24", star.column(0, 3), 16777214);
        due("how many", star.column(0, 1), 23);
        due("HEIGHT", star.column(0, 4), 23);
        due("BEHIND the last of 24", star.column(23, 3), 0);
        star.swap(0, 23);
        due("how many have the last as PARENT", star.column(0, 5), 23);
        due("PARENT", star.column(23, 2), 0);
        nobody(Tables::rich, "column", (o, u) -> o.column(u, 0));
        nobody(Tables::rich, "column, another what", (o, u) -> o.column(u, 6));
    }

    private void width() {
        promise = "12 width";
        due("of one", new OutOrder().width(), 0);
        due("of six", with(Tables::six).width(), 3);
        OutOrder star = with(o -> Tables.starOf(o, 24, 2));
        due("of a star", star.width(), 23);
        star.swap(0, 23);
        due("of a star, the middle last", star.width(), 1);
        star.put(1, 2, 1);
        due("by numbers now", star.width(), 2);
        due("of none JOINED", with(o -> o.table(24, 2)).width(), 0);
        due("of a ring", with(o -> Tables.ringOf(o, 24, 2)).width(), 2);
    }

    private void groupsAre(OutOrder x, int... bits) {
        for (int i = 0; i < bits.length; i++) {
            due("group(" + i + ")", x.group(i), bits[i]);
        }
        for (int wrong : new int[] {-1, bits.length, bits.length + 1, 24, LOW, HIGH}) {
            due("group(" + wrong + ")", wrong >= 0 && wrong < bits.length ? -9 : x.group(wrong), -9);
        }
        due("no REFUSAL", x.status(11), 0);
    }

    private void group() {
        promise = "13 group";
        groupsAre(new OutOrder(), 1);
        OutOrder x = with(Tables::six);
        groupsAre(x, 43, 46, 56);
        x.swap(0, 5);
        groupsAre(x, 7, 13, 25, 49);
        groupsAre(with(o -> Tables.starOf(o, 24, 2)), 16777215);
        OutOrder alone = with(o -> o.table(24, 2));
        for (int u = 0; u < 24; u++) {
            due("group(" + u + "), none JOINED", alone.group(u), 1 << u);
        }
        due("group(24), none JOINED", alone.group(24), -9);
        OutOrder y = new OutOrder();
        y.table(4, 5);
        y.put(0, 3, 1);
        y.put(1, 2, 1);
        groupsAre(y, 6, 9);
    }

    private void isClean() {
        promise = "14 isClean";
        due("of one", new OutOrder().isClean(), true);
        due("of six", with(Tables::six).isClean(), false);
        due("of a ring of 3", with(o -> Tables.ringOf(o, 3, 2)).isClean(), true);
        due("of a ring of 4", with(o -> Tables.ringOf(o, 4, 2)).isClean(), false);
        due("of a ring of 24", with(o -> Tables.ringOf(o, 24, 2)).isClean(), false);
        due("of all JOINED", with(o -> Tables.fullOf(o, 24, 2)).isClean(), true);
        OutOrder star = with(o -> Tables.starOf(o, 24, 2));
        due("of a star, whose ORDER is not CLEAN", star.isClean(), true);
        for (int u = 0; u < 24; u++) {
            star.hold(u, u == 0);
        }
        due("the middle HELD", star.isClean(), true);
        OutOrder x = with(o -> Tables.ringOf(o, 5, 3));
        x.put(0, 2, 1);
        due("a ring of 5 with one across", x.isClean(), false);
        x.put(0, 3, 1);
        due("with two across", x.isClean(), true);
        x.out(1);
        due("GOING does not matter", x.isClean(), true);
    }

    private void ring() {
        promise = "15 ring";
        due("of one", new OutOrder().ring(), 0);
        due("of all JOINED", with(o -> Tables.fullOf(o, 24, 2)).ring(), 0);
        due("of a star", with(o -> Tables.starOf(o, 24, 2)).ring(), 0);
        due("of a ring of 3", with(o -> Tables.ringOf(o, 3, 2)).ring(), 0);
        for (int n = 4; n <= 24; n++) {
            int m = n;
            due("of a ring of " + n, with(o -> Tables.ringOf(o, m, 2)).ring(), n);
        }
        OutOrder x = with(o -> Tables.ringOf(o, 24, 2));
        x.put(0, 2, 1);
        due("one cut off", x.ring(), 23);
        x.put(2, 21, 1);
        due("in two", x.ring(), 5);
        x.put(5, 8, 1);
        due("a small one", x.ring(), 4);
        OutOrder wheel = with(o -> Tables.ringOf(o, 6, 2));
        wheel.put(4, 5, 0);
        wheel.put(0, 5, 0);
        wheel.put(0, 4, 1);
        for (int u = 0; u < 5; u++) {
            wheel.put(5, u, 1);
        }
        due("of a wheel", wheel.ring(), 5);
        wheel.put(5, 0, 0);
        due("one spoke less", wheel.ring(), 4);
    }

    private void least() {
        promise = "16 least";
        due("FILLS of one", new OutOrder().least(0), 0);
        due("WIDTH of one", new OutOrder().least(1), 0);
        OutOrder x = with(Tables::six);
        due("FILLS of six", x.least(0), 2);
        due("WIDTH of six", x.least(1), 2);
        OutOrder ring = with(o -> Tables.ringOf(o, 12, 2));
        due("FILLS of a ring of 12", ring.least(0), 9);
        due("WIDTH of a ring of 12", ring.least(1), 2);
        due("WIDTH of 12, all JOINED", with(o -> Tables.fullOf(o, 12, 2)).least(1), 11);
        due("FILLS of 12, all JOINED", with(o -> Tables.fullOf(o, 12, 2)).least(0), 0);
        OutOrder star = with(o -> Tables.starOf(o, 12, 2));
        for (int u = 1; u < 12; u++) {
            star.hold(u, true);
        }
        star.work();
        star.out(0);
        due("FILLS, HELD or not", star.least(0), 0);
        due("WIDTH, HELD or not", star.least(1), 1);
        due("the ORDER stays", star.fills(), 55);
        due("GOING stays", star.status(4), 1);
        star.put(1, 2, 1);
        due("WIDTH by numbers now", star.least(1), 2);
        star.put(2, 3, 1);
        star.put(3, 4, 1);
        star.put(4, 1, 1);
        due("FILLS by numbers now", star.least(0), 1);
        for (int wrong : new int[] {-1, 2, 3, LOW, HIGH}) {
            refused("least(" + wrong + ")", Tables::rich, -2, o -> o.least(wrong));
            refused("least(" + wrong + "), 13", o -> Tables.ringOf(o, 13, 2), -2, o -> o.least(wrong));
        }
        refused("least(0), 13", o -> Tables.ringOf(o, 13, 2), -6, o -> o.least(0));
        refused("least(1), 24", o -> Tables.ringOf(o, 24, 2), -6, o -> o.least(1));
    }

    private void begin() {
        promise = "17 begin";
        due("of one", new OutOrder().begin(), 1);
        OutOrder x = with(Tables::rich);
        due("begin()", x.begin(), 6);
        due("none is OUT then", x.status(4), 0);
        due("no FILL stays", x.going(1, 2), 5);
        due("back()", x.back(), -9);
        due("WORK stays", x.status(5), 6);
        due("HELD stays", x.status(3), 1);
        due("of 24", with(o -> Tables.starOf(o, 24, 2)).begin(), 24);
    }

    private void out() {
        promise = "18 out";
        OutOrder x = with(o -> Tables.starOf(o, 24, 2));
        due("out(0)", x.out(0), 253);
        due("out(23)", x.out(23), 0);
        due("OUT", x.status(4), 2);
        due("the numbers stay", x.status(2), 23);
        due("the ORDER's fills stay", x.fills(), 253);
        for (int u = 1; u < 23; u++) {
            due("out(" + u + ")", x.out(u), 0);
        }
        due("all OUT", x.status(4), 24);
        due("out of a new one", new OutOrder().out(0), 0);
        OutOrder y = with(Tables::six);
        due("out(1)", y.out(1), 1);
        due("out(2), that was JOINED by it", y.out(2), 0);
        y.hold(3, true);
        due("out(3), HELD", y.out(3), 1);
        nobody(Tables::rich, "out", OutOrder::out);
        refused("out(2) again", Tables::rich, -3, o -> o.out(2));
        refused("out(0) again", Tables::rich, -3, o -> o.out(0));
    }

    private void going() {
        promise = "19 going";
        OutOrder x = with(Tables::six);
        due("neighbours of 0", x.going(0, 1), 3);
        due("as bits", x.going(0, 2), 42);
        due("would fill", x.going(0, 3), 3);
        x.out(0);
        due("neighbours of 1", x.going(1, 1), 3);
        due("as bits", x.going(1, 2), 44);
        due("would fill", x.going(1, 3), 1);
        for (int wrong : new int[] {-1, 4, 5, LOW, HIGH}) {
            due("going(1, " + wrong + ")", x.going(1, wrong), -9);
        }
        due("no REFUSAL", x.status(11) + x.status(12) + x.status(13), 0);
        OutOrder star = with(o -> Tables.starOf(o, 24, 2));
        due("as bits, 24", star.going(0, 2), 16777214);
        due("would fill, 24", star.going(0, 3), 253);
        due("the last of 24", star.going(23, 2), 1);
        for (int what : new int[] {-1, 0, 1, 2, 3, 4}) {
            nobody(Tables::rich, "going, " + what, (o, u) -> o.going(u, what));
            refused("going(2, " + what + ")", Tables::rich, -3, o -> o.going(2, what));
        }
    }

    private void kinds() {
        promise = "19 going, KIND";
        OutOrder x = new OutOrder();
        due("LAST", x.going(0, 0), 3);
        x.hold(0, true);
        due("HELD, but none else is there", x.going(0, 0), 3);
        x.table(3, 5);
        x.put(0, 2, 1);
        x.put(1, 2, 1);
        due("SIMPLE", x.going(0, 0), 1);
        due("no TWIN, as they are not JOINED", x.going(1, 0), 1);
        due("UNKNOWN", x.going(2, 0), 0);
        x.put(0, 1, 1);
        due("the least of TWINS is SIMPLE", x.going(0, 0), 1);
        due("TWIN", x.going(1, 0), 2);
        due("TWIN", x.going(2, 0), 2);
        x.hold(0, true);
        due("HELD", x.going(0, 0), 4);
        due("TWIN of a HELD one", x.going(1, 0), 2);
        x.hold(1, true);
        x.out(2);
        due("HELD ones alone are left", x.going(0, 0), 1);
        due("HELD ones alone are left, TWIN", x.going(1, 0), 2);
        x.out(0);
        due("the last one", x.going(1, 0), 3);
        x.table(2, 5);
        x.hold(1, true);
        due("HELD comes ahead of LAST", x.going(1, 0), 4);
        due("LAST", x.going(0, 0), 3);
        twinThatIsNotSimple();
    }

    private void twinThatIsNotSimple() {
        OutOrder x = with(o -> Tables.ringOf(o, 4, 5));
        due("none but UNKNOWN in a ring", x.going(3, 0), 0);
        x.table(4, 5);
        for (int[] pair : new int[][] {{0, 1}, {0, 2}, {0, 3}, {1, 2}, {1, 3}}) {
            x.put(pair[0], pair[1], 1);
        }
        due("UNKNOWN, as the other TWIN is the greater", x.going(0, 0), 0);
        due("TWIN that is not SIMPLE", x.going(1, 0), 2);
        due("SIMPLE", x.going(2, 0), 1);
        x.out(3);
        due("SIMPLE when 3 is OUT", x.going(0, 0), 1);
        due("TWIN when 3 is OUT", x.going(2, 0), 2);
    }

    private void back() {
        promise = "20 back";
        OutOrder x = with(o -> Tables.starOf(o, 24, 2));
        due("none is OUT", x.back(), -9);
        x.out(5);
        x.out(0);
        x.out(23);
        due("back()", x.back(), 23);
        due("the FILLS of 0 stay", x.going(23, 1), 21);
        due("back()", x.back(), 0);
        due("the FILLS of 0 are gone", x.going(23, 2), 1);
        due("5 is still OUT", x.going(0, 1), 22);
        due("OUT", x.status(4), 1);
        due("out(0) again", x.out(0), 231);
        due("back()", x.back(), 0);
        due("back()", x.back(), 5);
        due("back()", x.back(), -9);
        due("all there again", x.going(0, 1), 23);
        due("no REFUSAL", x.status(11) + x.status(13), 0);
        for (int u = 0; u < 24; u++) {
            x.out(u);
        }
        for (int u = 23; u >= 0; u--) {
            due("back() of all", x.back(), u);
        }
        OutOrder y = with(Tables::six);
        y.out(1);
        y.out(0);
        y.back();
        due("a FILL of one that is still OUT stays", y.going(0, 2), 44);
    }

    private void work() {
        promise = "21 work";
        OutOrder one = new OutOrder();
        due("of one, 0", one.work(), 1);
        OutOrder x = with(Tables::two);
        due("work()", x.work(), 2);
        due("status(5)", x.status(5), 2);
        due("status(6)", x.status(6), -9);
        OutOrder y = with(Tables::stuck);
        due("STUCK", y.work(), 1);
        due("status(5)", y.status(5), 1);
        due("status(6)", y.status(6), 1);
        y.swap(1, 2);
        due("by another ORDER", y.work(), 1);
        due("the other one is not STUCK", y.status(6), 2);
        y.swap(0, 1);
        due("by a third ORDER", y.work(), 1);
        OutOrder z = new OutOrder();
        Tables.square(z, 7, 0, 0, 0, 0, 2, 0, 0, 0, 3);
        due("a PIVOT 0 and no REST", z.work(), 3);
        Tables.square(z, 7, 1, 1, 0, 1, 1, 0, 0, 0, 2);
        due("a PIVOT that becomes 0", z.work(), 3);
        Tables.square(z, 7, 0, 1, 1, 0);
        due("STUCK at once", z.work(), 0);
        due("the STUCK one", z.status(6), 0);
        Tables.square(z, 2, 1, 1, 1, 0);
        due("modulo 2", z.work(), 2);
        OutOrder big = with(o -> o.table(24, 32749));
        due("24 noughts", big.work(), 24);
        big.put(22, 23, 1);
        due("STUCK before the last", big.work(), 22);
    }

    private void pivot() {
        promise = "22 pivot";
        OutOrder x = with(Tables::two);
        x.work();
        due("pivot(0)", x.pivot(0), 1);
        due("pivot(1)", x.pivot(1), 6);
        x.swap(0, 1);
        x.work();
        due("pivot(1), first", x.pivot(1), 3);
        due("pivot(0), second", x.pivot(0), 2);
        OutOrder y = with(Tables::stuck);
        due("pivot(0)", y.pivot(0), 1);
        due("pivot of the STUCK one", y.pivot(1), 0);
        OutOrder z = new OutOrder();
        Tables.square(z, 32749, -1, -1, -1, -3);
        z.work();
        due("pivot(0)", z.pivot(0), 32748);
        due("pivot(1)", z.pivot(1), 32747);
        // One whose PIVOT is 0 takes no part in the sums.
        Tables.square(z, 7, 1, 1, 2, 1, 1, 2, 2, 2, 6);
        due("work()", z.work(), 3);
        due("pivot(1)", z.pivot(1), 0);
        due("pivot(2)", z.pivot(2), 2);
        refused("pivot(2), not WORKED", Tables::stuck, -5, o -> o.pivot(2));
        refused("pivot(0), nothing WORKED", Tables::six, -5, o -> o.pivot(0));
        nobody(Tables::rich, "pivot", OutOrder::pivot);
        nobody(Tables::six, "pivot, nothing WORKED", OutOrder::pivot);
        afterChanges("pivot", o -> o.pivot(0));
    }

    /** The answer is -5 when something that undoes the WORK has come. */
    private void afterChanges(String name, Twin.Call call) {
        Tables.Setup[] changes = {
            o -> o.put(1, 1, 3), o -> o.order(0), o -> o.order(6), o -> o.swap(0, 0), o -> o.table(2, 7),
        };
        for (int i = 0; i < changes.length; i++) {
            Tables.Setup change = changes[i];
            refused(name + " after change " + i, o -> {
                Tables.two(o);
                o.work();
                change.on(o);
            }, -5, call);
        }
    }

    private void one() {
        promise = "23 one";
        OutOrder x = with(Tables::two);
        x.work();
        due("one(1, 0)", x.one(1, 0), 2);
        due("one(0, 0)", x.one(0, 0), 1);
        due("one(1, 1)", x.one(1, 1), 1);
        due("one(0, 1), ahead", x.one(0, 1), 0);
        x.swap(0, 1);
        x.work();
        due("one(0, 1), 2 by 3", x.one(0, 1), 3);
        due("one(1, 0), ahead", x.one(1, 0), 0);
        OutOrder y = with(Tables::stuck);
        due("one(2, 0) of one that is not WORKED", y.one(2, 0), 1);
        due("one(1, 0) of the STUCK one", y.one(1, 0), 1);
        OutOrder z = new OutOrder();
        Tables.square(z, 7, 0, 0, 0, 2);
        z.work();
        due("0 at a PIVOT 0", z.one(1, 0), 0);
        due("1 at a PIVOT 0 with itself", z.one(0, 0), 1);
        OutOrder big = new OutOrder();
        big.table(24, 32749);
        big.put(0, 0, 2);
        big.put(0, 23, 1);
        big.work();
        due("one(23, 0)", big.one(23, 0), 16375);
        due("one(0, 23)", big.one(0, 23), 0);
        for (int[] pair : new int[][] {{0, 1}, {1, 1}, {2, 1}, {2, 2}, {0, 2}}) {
            refused("one(" + pair[0] + ", " + pair[1] + ")", Tables::stuck, -5, o -> o.one(pair[0], pair[1]));
        }
        refused("one(0, 0), nothing WORKED", Tables::six, -5, o -> o.one(0, 0));
        nobody(Tables::rich, "one(u, ..)", (o, u) -> o.one(u, 0));
        nobody(Tables::rich, "one(.., u)", (o, u) -> o.one(5, u));
        nobody(Tables::six, "one(u, ..), nothing WORKED", (o, u) -> o.one(u, 0));
        nobody(Tables::six, "one(.., u), nothing WORKED", (o, u) -> o.one(0, u));
        afterChanges("one", o -> o.one(1, 0));
    }

    private void worth() {
        promise = "24 worth";
        OutOrder x = with(Tables::two);
        x.work();
        due("of two", x.worth(), 6);
        x.swap(0, 1);
        x.work();
        due("by another ORDER", x.worth(), 6);
        Tables.square(x, 32749, -1, -1, -1, -3);
        x.work();
        due("modulo 32749", x.worth(), 2);
        Tables.square(x, 7, 1, 1, 1, 1);
        x.work();
        due("0 if a PIVOT is", x.worth(), 0);
        Tables.square(x, 2, 1, 1, 1, 0);
        x.work();
        due("modulo 2", x.worth(), 1);
        x.table(24, 32749);
        for (int u = 0; u < 24; u++) {
            x.put(u, u, 2);
        }
        x.work();
        due("2 to the power 24", x.worth(), 16777216 % 32749);
        refused("STUCK", Tables::stuck, -5, OutOrder::worth);
        refused("nothing WORKED", Tables::six, -5, OutOrder::worth);
        afterChanges("worth", OutOrder::worth);
    }

    private void side() {
        promise = "25 side";
        OutOrder x = with(o -> o.table(24, 7));
        due("side(0, -1)", x.side(0, -1), 0);
        due("side(0, 15)", x.side(0, 15), 6);
        due("side(0, LOW)", x.side(0, LOW), 1);
        due("side(0, HIGH)", x.side(0, HIGH), 5);
        due("side(0, 0)", x.side(0, 0), 1);
        due("side(23, 7)", x.side(23, 7), 0);
        due("side(23, 4)", x.side(23, 4), 0);
        due("side(23, 0)", x.side(23, 0), 4);
        OutOrder y = with(Tables::rich);
        y.side(3, 3);
        due("WORK stays", y.status(5), 6);
        due("GOING stays", y.status(4), 2);
        y.order(0);
        due("by UNKNOWN, not by place", y.side(3, 0), 3);
        nobody(Tables::rich, "side", (o, u) -> o.side(u, 1));
    }

    private void solve() {
        promise = "26 solve";
        OutOrder x = with(Tables::two);
        x.work();
        due("all right sides 0", x.solve(0), 0);
        x.side(0, 1);
        x.side(1, 2);
        due("solve(0)", x.solve(0), 1);
        due("solve(1)", x.solve(1), 0);
        x.side(1, 3);
        due("solve(0), right sides now", x.solve(0), 3);
        due("solve(1), right sides now", x.solve(1), 6);
        x.swap(0, 1);
        x.work();
        due("solve(0), by another ORDER", x.solve(0), 3);
        due("solve(1), by another ORDER", x.solve(1), 6);
        Tables.square(x, 2, 1, 1, 1, 0);
        x.side(0, 1);
        x.work();
        due("modulo 2", x.solve(0), 0);
        due("modulo 2", x.solve(1), 1);
        checkSums(with(Tables::rich), 6, 101);
        OutOrder big = new OutOrder();
        big.table(24, 32749);
        for (int u = 0; u < 24; u++) {
            big.put(u, u, -2);
            big.put(u, (u + 1) % 24, 32748);
            big.side(u, 32748 - u);
        }
        big.put(0, 0, -3);
        due("work(), 24", big.work(), 24);
        solvesRing(big);
        refused("STUCK", Tables::stuck, -5, o -> o.solve(0));
        refused("nothing WORKED", Tables::six, -5, o -> o.solve(0));
        refused("a PIVOT is 0", Tables::nought, -5, o -> o.solve(0));
        nobody(Tables::rich, "solve", OutOrder::solve);
        nobody(Tables::six, "solve, nothing WORKED", OutOrder::solve);
        afterChanges("solve", o -> o.solve(0));
    }

    private void checkSums(OutOrder x, int n, int p) {
        for (int u = 0; u < n; u++) {
            long sum = 0;
            for (int w = 0; w < n; w++) {
                sum += (long) x.number(u, w) * x.solve(w);
            }
            due("the sum of " + u, (int) (sum % p), x.side(u, 7 * u + 1));
        }
    }

    private void solvesRing(OutOrder x) {
        long[] what = new long[24];
        for (int u = 0; u < 24; u++) {
            what[u] = x.solve(u);
        }
        for (int u = 0; u < 24; u++) {
            long sum = -(u == 0 ? 3 : 2) * what[u] - what[(u + 1) % 24] - what[(u + 23) % 24];
            due("the sum of " + u + " of 24", (int) Math.floorMod(sum, 32749L), 32748 - u);
        }
    }

    private void inside() {
        promise = "27 inside";
        OutOrder x = with(Tables::two);
        x.side(0, 5);
        x.work();
        due("inside(0, 0)", x.inside(0, 0), 4);
        due("inside(0, 1)", x.inside(0, 1), 2);
        due("inside(1, 0)", x.inside(1, 0), 2);
        due("inside(1, 1)", x.inside(1, 1), 6);
        due("the right side stays", x.side(0, 0), 5);
        x.swap(0, 1);
        x.work();
        due("inside(1, 1), by another ORDER", x.inside(1, 1), 6);
        due("inside(0, 0), by another ORDER", x.inside(0, 0), 4);
        OutOrder big = new OutOrder();
        big.table(24, 32749);
        for (int u = 0; u < 24; u++) {
            big.put(u, u, 1);
        }
        big.put(0, 23, 2);
        big.work();
        due("inside(0, 23), 24", big.inside(0, 23), 10917);
        due("inside(23, 23), 24", big.inside(23, 23), 10916);
        refused("STUCK", Tables::stuck, -5, o -> o.inside(0, 0));
        refused("nothing WORKED", Tables::six, -5, o -> o.inside(0, 0));
        refused("a PIVOT is 0", Tables::nought, -5, o -> o.inside(0, 0));
        nobody(Tables::rich, "inside(u, ..)", (o, u) -> o.inside(u, 0));
        nobody(Tables::rich, "inside(.., u)", (o, u) -> o.inside(5, u));
        nobody(Tables::six, "inside(u, ..), nothing WORKED", (o, u) -> o.inside(u, 0));
        afterChanges("inside", o -> o.inside(0, 1));
    }

    private void plan() {
        promise = "28 plan";
        due("of one", new OutOrder().plan(1), 1);
        OutOrder x = with(Tables::six);
        x.swap(0, 5);
        due("plan(1)", x.plan(1), 6);
        due("plan(2)", x.plan(2), 5);
        due("plan(24)", x.plan(24), 5);
        OutOrder alone = with(o -> o.table(24, 2));
        int[][] due = {{1, 24}, {2, 12}, {5, 5}, {23, 2}, {24, 1}};
        for (int[] d : due) {
            due("plan(" + d[0] + "), none JOINED", alone.plan(d[0]), d[1]);
        }
        OutOrder star = with(o -> Tables.starOf(o, 24, 2));
        due("a row of PARENTS", star.plan(24), 24);
        star.swap(0, 23);
        due("the middle last", star.plan(24), 2);
        due("the middle last, 4 hands", star.plan(4), 7);
        for (int wrong : new int[] {0, -1, LOW}) {
            refused("plan(" + wrong + ")", Tables::rich, -4, o -> o.plan(wrong));
        }
        for (int wrong : new int[] {25, 26, HIGH}) {
            refused("plan(" + wrong + ")", Tables::rich, -6, o -> o.plan(wrong));
        }
    }

    private void round() {
        promise = "29 round";
        OutOrder x = with(Tables::six);
        x.swap(0, 5);
        int[] alone = {5, 0, 1, 3, 4, 2};
        int[] byTwo = {4, 0, 1, 2, 3, 0};
        for (int u = 0; u < 6; u++) {
            due("round(1, " + u + ")", x.round(1, u), alone[u]);
            due("round(2, " + u + ")", x.round(2, u), byTwo[u]);
            due("round(24, " + u + ")", x.round(24, u), byTwo[u]);
        }
        OutOrder y = with(o -> o.table(24, 2));
        due("round(5, 4)", y.round(5, 4), 0);
        due("round(5, 5)", y.round(5, 5), 1);
        due("round(5, 23)", y.round(5, 23), 4);
        y.order(6);
        due("of several the first in the ORDER", y.round(5, 23), 0);
        due("of several the last in the ORDER", y.round(5, 0), 4);
        due("of one", new OutOrder().round(24, 0), 0);
        for (int hands : new int[] {0, 1, 24, 25, LOW, HIGH}) {
            nobody(Tables::rich, "round(" + hands + ", ..)", (o, u) -> o.round(hands, u));
        }
        for (int wrong : new int[] {0, -1, LOW}) {
            refused("round(" + wrong + ", 5)", Tables::rich, -4, o -> o.round(wrong, 5));
        }
        for (int wrong : new int[] {25, 26, HIGH}) {
            refused("round(" + wrong + ", 0)", Tables::rich, -6, o -> o.round(wrong, 0));
        }
    }

    private void status() {
        promise = "30 status";
        OutOrder x = with(Tables::rich);
        int[] due = {6, 101, 7, 1, 2, 6, -9};
        for (int what = 0; what < due.length; what++) {
            due("status(" + what + ")", x.status(what), due[what]);
        }
        for (int wrong : new int[] {-1, 8, 9, 10, 17, 18, -9, -11, LOW, HIGH}) {
            due("status(" + wrong + ")", x.status(wrong), -9);
        }
        for (int k = 1; k <= 6; k++) {
            due("status(" + (10 + k) + ")", x.status(10 + k), 0);
        }
        due("status(6), STUCK", with(Tables::stuck).status(6), 1);
        OutOrder y = with(Tables::two);
        due("status(7)", y.status(7), 31778);
        y.table(3, 32749);
        y.put(0, 0, -1);
        due("status(7) goes round", y.status(7), (int) (32748L * 852891037441L));
        y.put(0, 0, 0);
        y.put(2, 1, 9);
        due("status(7), both ways about", y.status(7), 9 * 29791 + 9 * 31);
        countRefusals();
    }

    private void countRefusals() {
        OutOrder x = with(Tables::rich);
        for (int i = 0; i < 6; i++) {
            x.at(-1);
        }
        for (int i = 0; i < 5; i++) {
            x.order(7);
        }
        for (int i = 0; i < 4; i++) {
            x.out(2);
        }
        for (int i = 0; i < 3; i++) {
            x.plan(0);
        }
        x.order(3);
        x.order(4);
        x.plan(25);
        for (int k = 1; k <= 6; k++) {
            due("status(" + (10 + k) + ") then", x.status(10 + k), 7 - k);
        }
        x.table(3, 3);
        x.begin();
        for (int k = 1; k <= 6; k++) {
            due("status(" + (10 + k) + ") still", x.status(10 + k), 7 - k);
        }
    }
}
