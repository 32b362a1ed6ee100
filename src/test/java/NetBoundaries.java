/** Promises 9 to 20: FILLS, the tree and the GROUPS, RINGS, what is least, and GOING. */
final class NetBoundaries extends Boundaries {
    NetBoundaries(Sentences sentences) {
        super(sentences);
    }

    @Override
    void ask() {
        askFills();
        askColumn();
        askWidthAndGroups();
        askRings();
        askLeast();
        askBeginAndOut();
        askGoing();
        askBack();
    }

    // ---- 9, 10

    private void askFills() {
        section("Promise 9");
        sentence("How many FILLS the ORDER has.", () -> {
            due("one alone", new OutOrder().fills(), 0);
            due("none JOINED", Tables.with(o -> o.table(24, 2)).fills(), 0);
            due("all JOINED", Tables.with(o -> Tables.fullOf(o, 24, 2)).fills(), 0);
            due("two", Tables.with(o -> Tables.starOf(o, 2, 2)).fills(), 0);
            due("three, one FILL", Tables.with(o -> Tables.starOf(o, 3, 2)).fills(), 1);
            OutOrder star = Tables.with(o -> Tables.starOf(o, 24, 2));
            due("the most", star.fills(), 253);
            star.swap(0, 22);
            due("the middle last but one", star.fills(), 0);
            star.swap(21, 22);
            due("the middle last but two", star.fills(), 1);
        });
        section("Promise 10");
        sentence("32 times the lesser number of the pair, and the greater", () -> {
            OutOrder star = Tables.with(o -> Tables.starOf(o, 24, 2));
            due("the first", star.fill(0), 34);
            due("the last of 1", star.fill(21), 55);
            due("the first of 2", star.fill(22), 67);
            due("the last", star.fill(252), 727);
            OutOrder y = Tables.with(o -> Tables.joined(o, 24, 2, new int[] {1, 0}, new int[] {1, 23}));
            y.order(6);
            y.swap(0, 22);
            fillsAre(y, 23);
        });
        sentence("-9 if there is none.", () -> {
            OutOrder star = Tables.with(o -> Tables.starOf(o, 24, 2));
            for (int i : new int[] {-1, 253, 254, 276, 288, 576, LOW, HIGH}) {
                due("fill(" + i + ")", star.fill(i), -9);
                due("fill(" + i + ") of one alone", new OutOrder().fill(i), -9);
            }
            due("none at all", new OutOrder().fill(0), -9);
            noRefusal(star);
            star.order(6);
            due("one that another ORDER had", star.fill(0), -9);
        });
    }

    // ---- 11

    private void askColumn() {
        section("Promise 11");
        sentence("0 its place", () -> ends("column(u, 0)", (x, u) -> x.column(u, 0), (n, u) -> u));
        sentence("1 how many are BEHIND it", () -> {
            due("one alone", new OutOrder().column(0, 1), 0);
            OutOrder all = Tables.with(o -> Tables.fullOf(o, 24, 2));
            for (int u = 0; u < 24; u++) {
                due("all JOINED, " + u, all.column(u, 1), 23 - u);
            }
        });
        sentence("2 its PARENT (-9)", () -> {
            due("one alone", new OutOrder().column(0, 2), -9);
            OutOrder path = Tables.with(o -> Tables.pathOf(o, 24, 2));
            due("the first", path.column(0, 2), 1);
            due("the last but one", path.column(22, 2), 23);
            due("the last", path.column(23, 2), -9);
            due("none JOINED", Tables.with(o -> o.table(24, 2)).column(0, 2), -9);
            path.order(6);
            due("the last is 0", path.column(1, 2), 0);
            due("0 has none", path.column(0, 2), -9);
            noRefusal(path);
        });
        sentence("3 BEHIND as bits", () -> {
            due("one alone", new OutOrder().column(0, 3), 0);
            OutOrder star = Tables.with(o -> Tables.starOf(o, 24, 2));
            due("23 BEHIND", star.column(0, 3), 0xfffffe);
            due("the greatest bit", star.column(22, 3), 0x800000);
            due("none BEHIND", star.column(23, 3), 0);
            star.swap(0, 23);
            due("the least bit", star.column(1, 3), 1);
        });
        sentence("4 HEIGHT", () -> {
            due("one alone", new OutOrder().column(0, 4), 0);
            OutOrder path = Tables.with(o -> Tables.pathOf(o, 24, 2));
            due("the most", path.column(0, 4), 23);
            due("the least", path.column(23, 4), 0);
            path.order(6);
            due("the most, turned about", path.column(23, 4), 23);
            due("the least, turned about", path.column(0, 4), 0);
            path.table(24, 2);
            due("none JOINED", path.column(23, 4), 0);
        });
        sentence("5 how many have it as PARENT", () -> {
            due("one alone", new OutOrder().column(0, 5), 0);
            OutOrder star = Tables.with(o -> Tables.starOf(o, 24, 2));
            due("nobody", star.column(0, 5), 0);
            due("one", star.column(23, 5), 1);
            star.swap(0, 23);
            due("all others", star.column(0, 5), 23);
            star.swap(0, 23);
            due("nobody again", star.column(0, 5), 0);
            star.table(24, 2);
            due("none JOINED", star.column(23, 5), 0);
        });
        sentence("-1;", () -> {
            for (int what : new int[] {-1, 0, 5, 6, LOW, HIGH}) {
                ends("column(u, " + what + ")", (x, u) -> x.column(u, what), (n, u) -> what == 0 ? u : what == 5 ? 0 : -9);
                refusedAnywhere("column(24, " + what + ")", -1, x -> x.column(24, what));
            }
        });
        sentence("-9 another what.", () -> {
            OutOrder x = Tables.with(Boundaries::everything24);
            for (int what : new int[] {-1, 6, 7, 11, LOW, HIGH}) {
                due("column(0, " + what + ")", x.column(0, what), -9);
                due("column(23, " + what + ")", x.column(23, what), -9);
            }
            noRefusal(x);
        });
    }

    // ---- 12, 13

    private void askWidthAndGroups() {
        section("Promise 12");
        sentence("WIDTH of the ORDER.", () -> {
            due("one alone", new OutOrder().width(), 0);
            due("none JOINED", Tables.with(o -> o.table(24, 2)).width(), 0);
            due("all JOINED", Tables.with(o -> Tables.fullOf(o, 24, 2)).width(), 23);
            OutOrder star = Tables.with(o -> Tables.starOf(o, 24, 2));
            due("the middle first", star.width(), 23);
            star.order(6);
            due("the middle last", star.width(), 1);
            star.order(6);
            due("the first again", star.width(), 23);
        });
        section("Promise 13");
        sentence("GROUP i of the ORDER as bits", () -> {
            due("one alone", new OutOrder().group(0), 1);
            due("all JOINED", Tables.with(o -> Tables.fullOf(o, 24, 2)).group(0), 0xffffff);
            OutOrder alone = Tables.with(o -> o.table(24, 2));
            due("none JOINED, the first", alone.group(0), 1);
            due("none JOINED, the last", alone.group(23), 0x800000);
            OutOrder star = Tables.with(o -> Tables.starOf(o, 24, 2));
            due("JOINED by FILLS", star.group(0), 0xffffff);
            star.swap(0, 23);
            due("the middle last, the first", star.group(0), 3);
            due("the middle last, the last", star.group(22), 0x800001);
        });
        sentence("-9 if there is none.", () -> {
            for (int i : new int[] {-1, 1, 2, 23, 24, LOW, HIGH}) {
                due("group(" + i + ") of one alone", new OutOrder().group(i), -9);
                due("group(" + i + "), all JOINED", Tables.with(o -> Tables.fullOf(o, 24, 2)).group(i), -9);
            }
            OutOrder alone = Tables.with(o -> o.table(24, 2));
            due("group(24), none JOINED", alone.group(24), -9);
            due("group(-1), none JOINED", alone.group(-1), -9);
            noRefusal(alone);
            OutOrder star = Tables.with(o -> Tables.starOf(o, 24, 2));
            star.swap(0, 23);
            due("group(23), the middle last", star.group(23), -9);
            star.swap(0, 23);
            due("one that another ORDER had", star.group(1), -9);
        });
    }

    // ---- 14, 15

    private void askRings() {
        section("Promise 14");
        sentence("Whether some ORDER is CLEAN.", () -> {
            due("one alone", new OutOrder().isClean(), true);
            due("none JOINED", Tables.with(o -> o.table(24, 2)).isClean(), true);
            due("all JOINED", Tables.with(o -> Tables.fullOf(o, 24, 2)).isClean(), true);
            due("a star, whose ORDER is not", Tables.with(o -> Tables.starOf(o, 24, 2)).isClean(), true);
            due("three in a ring", Tables.with(o -> Tables.ringOf(o, 3, 2)).isClean(), true);
            due("four in a ring", Tables.with(o -> Tables.ringOf(o, 4, 2)).isClean(), false);
            due("24 in a ring", Tables.with(o -> Tables.ringOf(o, 24, 2)).isClean(), false);
            OutOrder x = Tables.with(o -> Tables.joined(o, 24, 2, new int[] {20, 21}, new int[] {21, 22}, new int[] {22, 23}, new int[] {23, 20}));
            due("the last four in a ring", x.isClean(), false);
            x.put(23, 20, 2);
            due("a number that becomes 0", x.isClean(), true);
        });
        section("Promise 15");
        sentence("How many UNKNOWNS the shortest RING has", () -> {
            due("four", Tables.with(o -> Tables.ringOf(o, 4, 2)).ring(), 4);
            due("all 24", Tables.with(o -> Tables.ringOf(o, 24, 2)).ring(), 24);
            OutOrder x = Tables.with(o -> Tables.ringOf(o, 24, 2));
            x.put(0, 12, 1);
            due("two of 13", x.ring(), 13);
            x.put(0, 3, 1);
            due("a shorter one", x.ring(), 4);
            OutOrder y = Tables.with(o -> Tables.ringOf(o, 24, 2));
            y.put(20, 23, 1);
            due("the shorter one at the end", y.ring(), 4);
            y.put(20, 22, 1);
            due("it is no RING any more", y.ring(), 22);
        });
        sentence("0 if there is none.", () -> {
            due("one alone", new OutOrder().ring(), 0);
            due("none JOINED", Tables.with(o -> o.table(24, 2)).ring(), 0);
            due("all JOINED", Tables.with(o -> Tables.fullOf(o, 24, 2)).ring(), 0);
            due("three in a ring", Tables.with(o -> Tables.ringOf(o, 3, 2)).ring(), 0);
            due("a row of 24", Tables.with(o -> Tables.pathOf(o, 24, 2)).ring(), 0);
        });
    }

    // ---- 16

    private void askLeast() {
        section("Promise 16");
        sentence("Of all ORDERS (HELD or not) the fewest FILLS (what 0), the least WIDTH (1).", () -> {
            leastIs("one alone", x -> { }, 0, 0);
            leastIs("none of 12 JOINED", x -> x.table(12, 2), 0, 0);
            leastIs("all of 12 JOINED", x -> Tables.fullOf(x, 12, 2), 0, 11);
            leastIs("a star of 12", x -> Tables.starOf(x, 12, 2), 0, 1);
            leastIs("a ring of 12", x -> Tables.ringOf(x, 12, 2), 9, 2);
            leastIs("a ring of 3", x -> Tables.ringOf(x, 3, 2), 0, 2);
            leastIs("two", x -> Tables.starOf(x, 2, 2), 0, 1);
            OutOrder y = Tables.with(o -> Tables.ringOf(o, 12, 2));
            due("a ring", y.least(0), 9);
            y.put(11, 0, 2);
            due("a row, by a number that becomes 0", y.least(0), 0);
            due("WIDTH of the row", y.least(1), 1);
            y.table(12, 2);
            due("WIDTH of none JOINED", y.least(1), 0);
            for (int n = 1; n < 12; n++) {
                OutOrder z = Tables.with(o -> Tables.fullOf(o, 12, 2));
                due("WIDTH of 12, all JOINED", z.least(1), 11);
                z.table(n, 2);
                due("FILLS of " + n + " after 12", z.least(0), 0);
                due("WIDTH of " + n + " after 12", z.least(1), 0);
            }
        });
        sentence("-2 what;", () -> {
            for (int what : new int[] {-1, 2, 3, LOW, HIGH}) {
                refusedAnywhere("least(" + what + ")", -2, x -> x.least(what));
                refused("least(" + what + "), 13", o -> Tables.ringOf(o, 13, 2), -2, x -> x.least(what));
            }
        });
        sentence("-6.", () -> {
            for (int what = 0; what <= 1; what++) {
                int w = what;
                refused("least(" + what + "), 13", o -> Tables.ringOf(o, 13, 2), -6, x -> x.least(w));
                refused("least(" + what + "), 24", Boundaries::everything24, -6, x -> x.least(w));
                OutOrder x = Tables.with(o -> Tables.ringOf(o, 13, 2));
                x.least(what);
                Tables.ringOf(x, 12, 2);
                due("least(" + what + "), 12 after 13", x.least(what), what == 0 ? 9 : 2);
            }
        });
    }

    private void leastIs(String what, Tables.Setup setup, int fills, int width) {
        OutOrder x = Tables.with(setup);
        due("FILLS, " + what, x.least(0), fills);
        due("WIDTH, " + what, x.least(1), width);
        int n = x.status(0);
        int before = x.fills();
        for (int u = 0; u < n; u++) {
            x.hold(u, true);
            x.out(u);
        }
        due("FILLS, all HELD and OUT, " + what, x.least(0), fills);
        due("WIDTH, all HELD and OUT, " + what, x.least(1), width);
        due("the ORDER stays, " + what, x.fills(), before);
        noRefusal(x);
    }

    // ---- 17, 18

    private void askBeginAndOut() {
        section("Promise 17");
        sentence("BEGIN: GOING anew.", () -> {
            OutOrder x = Tables.with(o -> Tables.starOf(o, 24, 2));
            x.begin();
            due("nobody was OUT", x.status(4), 0);
            for (int u = 0; u < 24; u++) {
                x.out(u);
            }
            due("all OUT", x.status(4), 24);
            x.begin();
            due("nobody OUT", x.status(4), 0);
            due("no FILL", x.going(23, 1), 1);
            due("none to be taken back", x.back(), -9);
            due("out(0) again", x.out(0), 253);
        });
        sentence("How many UNKNOWNS.", () -> {
            due("one alone", new OutOrder().begin(), 1);
            due("24", Tables.with(Boundaries::everything24).begin(), 24);
        });
        section("Promise 18");
        sentence("In GOING an UNKNOWN goes OUT: how many FILLS that has.", () -> {
            due("one alone", new OutOrder().out(0), 0);
            OutOrder star = Tables.with(o -> Tables.starOf(o, 24, 2));
            due("the most", star.out(0), 253);
            for (int u = 1; u < 24; u++) {
                due("out(" + u + ")", star.out(u), 0);
                due("OUT", star.status(4), u + 1);
            }
            due("three, one FILL", Tables.with(o -> Tables.starOf(o, 3, 2)).out(0), 1);
            OutOrder last = Tables.with(o -> Tables.starOf(o, 24, 2));
            for (int u = 23; u >= 0; u--) {
                due("out(" + u + ") from the end on", last.out(u), 0);
            }
        });
        sentence("-1;", () -> {
            ends("out(u)", OutOrder::out, (n, u) -> 0);
            refusedAnywhere("out(-1)", -1, x -> x.out(-1));
            refusedAnywhere("out(24)", -1, x -> x.out(24));
        });
        sentence("-3.", () -> {
            for (int u : new int[] {0, 23}) {
                refused("out(" + u + "), all OUT", Boundaries::everything24, -3, x -> x.out(u));
            }
            refused("out(2) again", Tables::rich, -3, x -> x.out(2));
            OutOrder x = Tables.with(Boundaries::everything24);
            due("back()", x.back(), 23);
            due("out(23), as it was taken back", x.out(23), 0);
            due("out(23) again", x.out(23), -3);
            x.begin();
            due("out(23) when GOING is anew", x.out(23), 0);
        });
    }

    // ---- 19

    private void askGoing() {
        section("Promise 19");
        sentence("0 KIND", () -> ends("going(u, 0)", (x, u) -> x.going(u, 0), (n, u) -> 3));
        sentence("1 how many NEIGHBOURS, 2 these as bits", () -> {
            due("none of one alone", new OutOrder().going(0, 1), 0);
            due("no bit of one alone", new OutOrder().going(0, 2), 0);
            OutOrder all = Tables.with(o -> Tables.fullOf(o, 24, 2));
            due("the most", all.going(23, 1), 23);
            due("of the last one", all.going(23, 2), 0x7fffff);
            due("of the first one", all.going(0, 2), 0xfffffe);
            for (int u = 0; u < 23; u++) {
                all.out(u);
                due("fewer", all.going(23, 1), 22 - u);
            }
            due("no bit, all others OUT", all.going(23, 2), 0);
        });
        sentence("3 how many FILLS it would have", () -> {
            due("one alone", new OutOrder().going(0, 3), 0);
            OutOrder star = Tables.with(o -> Tables.starOf(o, 24, 2));
            due("the most", star.going(0, 3), 253);
            due("one NEIGHBOUR", star.going(23, 3), 0);
            due("nothing has changed", star.going(23, 2), 1);
            due("all JOINED", Tables.with(o -> Tables.fullOf(o, 24, 2)).going(0, 3), 0);
        });
        sentence("-1;", () -> {
            for (int what : new int[] {-1, 0, 3, 4, LOW, HIGH}) {
                ends("going(u, " + what + ")", (x, u) -> x.going(u, what), (n, u) -> what == 0 ? 3 : what == 3 ? 0 : -9);
                refusedAnywhere("going(24, " + what + ")", -1, x -> x.going(24, what));
            }
        });
        sentence("-3;", () -> {
            for (int what : new int[] {-1, 0, 1, 2, 3, 4, LOW, HIGH}) {
                refused("going(0, " + what + "), all OUT", Boundaries::everything24, -3, x -> x.going(0, what));
                refused("going(23, " + what + "), all OUT", Boundaries::everything24, -3, x -> x.going(23, what));
                refused("going(2, " + what + ")", Tables::rich, -3, x -> x.going(2, what));
            }
        });
        sentence("-9 another what.", () -> {
            OutOrder x = Tables.with(o -> Tables.units(o, 24));
            for (int what : new int[] {-1, 4, 5, 11, LOW, HIGH}) {
                due("going(0, " + what + ")", x.going(0, what), -9);
                due("going(23, " + what + ")", x.going(23, what), -9);
            }
            noRefusal(x);
        });
    }

    // ---- 20

    private void askBack() {
        section("Promise 20");
        sentence("The latest out() of GOING is taken back, with its FILLS: the UNKNOWN", () -> {
            OutOrder star = Tables.with(o -> Tables.starOf(o, 24, 2));
            star.out(23);
            star.out(0);
            due("the latest", star.back(), 0);
            due("its FILLS are gone", star.going(22, 2), 1);
            due("the other one is still OUT", star.going(0, 1), 22);
            for (int u = 0; u < 23; u++) {
                star.out(u);
            }
            due("all OUT", star.status(4), 24);
            for (int u = 22; u >= 0; u--) {
                due("all, one by one", star.back(), u);
            }
            due("the first that went", star.back(), 23);
            due("all NEIGHBOURS again", star.going(0, 2), 0xfffffe);
            OutOrder ring = Tables.with(o -> Tables.ringOf(o, 5, 2));
            ring.out(1);
            ring.out(2);
            ring.back();
            due("FILLS of one that is still OUT stay", ring.going(0, 2), 20);
        });
        sentence("-9 if none is OUT.", () -> {
            OutOrder x = new OutOrder();
            due("at first", x.back(), -9);
            x.out(0);
            due("one is", x.back(), 0);
            due("none any more", x.back(), -9);
            due("none still", x.back(), -9);
            due("OUT", x.status(4), 0);
            noRefusal(x);
            Tables.Setup[] beginnings = {o -> o.begin(), o -> o.put(0, 0, 1), o -> o.table(24, 2)};
            for (int i = 0; i < beginnings.length; i++) {
                OutOrder y = Tables.with(Boundaries::everything24);
                beginnings[i].on(y);
                due("after beginning " + i, y.back(), -9);
            }
        });
    }
}
