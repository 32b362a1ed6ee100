/** 'Terms': the TABLE, ORDERS and their RULES, RINGS, and the REFUSALS. */
final class TermsBoundaries extends Boundaries {
    TermsBoundaries(Sentences sentences) {
        super(sentences);
    }

    @Override
    void ask() {
        section("What it is");
        sentence("An object is used for at most 512 calls after it has been made", this::all512Calls);
        section("Terms");
        askTable();
        askNet();
        askRules();
        askRings();
        askRefusals();
    }

    private void all512Calls() {
        OutOrder x = new OutOrder();
        for (int i = 1; i < 512; i++) {
            x.at(-1);
        }
        due("the 512th call", x.status(11), 511);
    }

    // ---- the TABLE

    private void askTable() {
        sentence("24; 1 at first)", this::howManyUnknowns);
        sentence("a PRIME P (2 .. 32749; 32749 at first)", this::primes);
        sentence("a number 0 .. P - 1 (0 at first) for each two of them", this::numbers);
        sentence("the same both ways about, and each with itself", this::bothWaysAbout);
        sentence("All reckoning of these is modulo P.", this::modulo);
        sentence("Two UNKNOWNS are JOINED if their number is not 0.", this::joined);
        sentence("UNKNOWNS may be HELD.", this::held);
    }

    private void howManyUnknowns() {
        due("at first", new OutOrder().status(0), 1);
        for (int n : new int[] {1, 2, 23, 24}) {
            OutOrder x = new OutOrder();
            due("table(" + n + ", 7)", x.table(n, 7), 1);
            due("UNKNOWNS", x.status(0), n);
            due("the last one", x.number(n - 1, n - 1), 0);
            due("one more", x.number(n, n), -1);
        }
    }

    private void primes() {
        due("at first", new OutOrder().status(1), 32749);
        OutOrder x = new OutOrder();
        x.put(0, 0, 32748);
        due("at first 32748 stays", x.number(0, 0), 32748);
        for (int p : new int[] {2, 3, 32719, 32749}) {
            due("table(2, " + p + ")", x.table(2, p), 1);
            due("P", x.status(1), p);
        }
        due("one below 2", x.table(2, 1), -4);
        due("one above 32749", x.table(2, 32750), -6);
        due("P stays", x.status(1), 32749);
    }

    private void numbers() {
        OutOrder x = Tables.with(o -> o.table(24, 2));
        for (int u = 0; u < 24; u++) {
            due("0 at first, with the last one", x.number(u, 23), 0);
        }
        int[][] puts = {{2, 1, 1}, {2, 2, 0}, {2, 3, 1}, {32749, 32748, 32748}, {32749, 32749, 0}, {32749, 32750, 1}};
        for (int[] put : puts) {
            x.table(2, put[0]);
            x.put(0, 1, put[1]);
            due(put[1] + " modulo " + put[0], x.number(0, 1), put[2]);
        }
    }

    private void bothWaysAbout() {
        OutOrder x = Tables.with(o -> o.table(24, 7));
        x.put(23, 0, 3);
        due("number(0, 23)", x.number(0, 23), 3);
        x.put(0, 23, 4);
        due("number(23, 0)", x.number(23, 0), 4);
        x.put(23, 23, 5);
        due("number(23, 23)", x.number(23, 23), 5);
        due("number(0, 0)", x.number(0, 0), 0);
        due("number(0, 23) stays", x.number(0, 23), 4);
    }

    /** Less one everywhere and less two with itself: the greatest products that there are. */
    private void modulo() {
        OutOrder x = Tables.with(o -> o.table(24, 32749));
        for (int u = 0; u < 24; u++) {
            for (int w = 0; w <= u; w++) {
                x.put(u, w, u == w ? -2 : -1);
            }
            x.side(u, -1);
        }
        due("work()", x.work(), 24);
        due("the first PIVOT, -2", x.pivot(0), 32747);
        due("the second PIVOT, -3 by 2", x.pivot(1), 16373);
        due("ONE, 1 by 2", x.one(23, 0), 16375);
        due("worth()", x.worth(), 25);
        due("solve(0), 1 by 25", x.solve(0), 1310);
        due("solve(23), 1 by 25", x.solve(23), 1310);
        due("inside(0, 23), 1 by 25", x.inside(0, 23), 1310);
        due("inside(23, 23), -24 by 25", x.inside(23, 23), 1309);
    }

    private void joined() {
        int[][] cases = {{0, 0}, {1, 1}, {6, 1}, {7, 0}, {8, 1}, {-1, 1}, {-7, 0}, {LOW, 1}, {HIGH, 1}, {HIGH - 1, 0}};
        for (int[] c : cases) {
            OutOrder x = Tables.with(o -> o.table(2, 7));
            x.put(0, 1, c[0]);
            due("pairs, " + c[0] + " modulo 7", x.status(2), c[1]);
            due("NEIGHBOURS, " + c[0] + " modulo 7", x.going(0, 2), 2 * c[1]);
        }
        OutOrder x = Tables.with(o -> o.table(2, 7));
        x.put(1, 1, 1);
        due("with itself none is", x.status(2), 0);
        due("with itself none is a NEIGHBOUR", x.going(1, 2), 0);
        due("all JOINED", Tables.with(o -> Tables.fullOf(o, 24, 2)).status(2), 276);
    }

    private void held() {
        OutOrder x = Tables.with(o -> o.table(24, 2));
        due("none at first", x.status(3), 0);
        for (int u = 0; u < 24; u++) {
            due("hold(" + u + ", true)", x.hold(u, true), true);
        }
        due("all", x.status(3), 24);
        for (int u = 23; u >= 0; u--) {
            due("hold(" + u + ", false)", x.hold(u, false), true);
        }
        due("none again", x.status(3), 0);
    }

    // ---- putting OUT, the FULL NET

    private void askNet() {
        sentence("(those that are JOINED with it and not OUT yet)", this::notOutYet);
        sentence("that are not JOINED become so: each such pair is a FILL.", this::eachPairIsAFill);
        sentence("(The numbers stay as they are.)", this::numbersStay);
        sentence("of one UNKNOWN by the lesser number of the pair, then the greater.", this::orderOfFills);
        sentence("It is CLEAN if it has none.", this::cleanIfNone);
        sentence("The FULL NET of an ORDER: all that is JOINED, and all its FILLS.", this::fullNet);
        sentence("the PARENT is the first of these.", this::parentIsTheFirst);
        sentence("WIDTH is the most that are BEHIND any.", this::widthIsTheMost);
        sentence("each two of which are JOINED in the FULL NET, and to which no other one could be added", this::groups);
        sentence("as bits (bit u for UNKNOWN u), the least first.", this::groupsLeastFirst);
    }

    private void notOutYet() {
        OutOrder x = Tables.with(o -> Tables.pathOf(o, 3, 5));
        due("would fill", x.going(1, 3), 1);
        due("out(0)", x.out(0), 0);
        due("would fill, 0 being OUT", x.going(1, 3), 0);
        due("NEIGHBOURS, 0 being OUT", x.going(1, 2), 4);
        due("out(1)", x.out(1), 0);
        due("no NEIGHBOUR is left", x.going(2, 1), 0);
        due("out(2), all others OUT", x.out(2), 0);
        OutOrder y = Tables.with(o -> Tables.pathOf(o, 3, 5));
        due("fills() of the ORDER", y.fills(), 0);
        y.swap(0, 1);
        due("fills() with 1 first", y.fills(), 1);
    }

    private void eachPairIsAFill() {
        due("no NEIGHBOUR", new OutOrder().out(0), 0);
        due("one NEIGHBOUR", Tables.with(o -> Tables.starOf(o, 2, 5)).out(0), 0);
        due("two NEIGHBOURS", Tables.with(o -> Tables.starOf(o, 3, 5)).out(0), 1);
        due("23 NEIGHBOURS", Tables.with(o -> Tables.starOf(o, 24, 5)).out(0), 253);
        due("23 NEIGHBOURS, all JOINED", Tables.with(o -> Tables.fullOf(o, 24, 5)).out(0), 0);
        OutOrder x = Tables.with(o -> Tables.starOf(o, 4, 5));
        x.put(1, 2, 1);
        due("a pair that is JOINED is none", x.out(0), 2);
        due("they are JOINED then", x.going(3, 2), 6);
        due("and no FILLS again", x.out(3), 0);
    }

    private void numbersStay() {
        OutOrder x = Tables.with(o -> Tables.starOf(o, 24, 5));
        int before = x.status(7);
        x.out(0);
        due("FILLS of the ORDER", x.fills(), 253);
        due("number(22, 23)", x.number(22, 23), 0);
        due("pairs", x.status(2), 23);
        due("all numbers", x.status(7) - before, 0);
    }

    private void orderOfFills() {
        fillsAre(Tables.with(o -> Tables.starOf(o, 4, 5)), 34, 35, 67);
        int[][] pairs = {{5, 3}, {5, 4}, {0, 1}, {0, 2}};
        OutOrder x = Tables.with(o -> Tables.joined(o, 6, 5, pairs));
        x.swap(1, 5);
        fillsAre(x, 34, 100);
        x.swap(0, 1);
        fillsAre(x, 100, 34);
        fillsAre(new OutOrder());
    }

    private void cleanIfNone() {
        fillsAre(Tables.with(o -> o.table(24, 2)));
        fillsAre(Tables.with(o -> Tables.fullOf(o, 24, 2)));
        due("all JOINED", Tables.with(o -> Tables.fullOf(o, 24, 2)).isClean(), true);
        due("none JOINED", Tables.with(o -> o.table(24, 2)).isClean(), true);
    }

    private void fullNet() {
        OutOrder x = Tables.with(o -> Tables.ringOf(o, 4, 5));
        due("what is JOINED", x.column(0, 3), 10);
        due("and a FILL", x.column(1, 3), 12);
        OutOrder star = Tables.with(o -> Tables.starOf(o, 24, 5));
        due("FILLS alone", star.column(1, 3), 0xfffffc);
        due("none is JOINED", Tables.with(o -> o.table(24, 5)).column(0, 3), 0);
    }

    private void parentIsTheFirst() {
        OutOrder x = Tables.with(o -> Tables.starOf(o, 3, 5));
        due("PARENT of 0", x.column(0, 2), 1);
        x.swap(1, 2);
        due("the first in the ORDER, not the least", x.column(0, 2), 2);
        due("none BEHIND the last one", x.column(1, 3), 0);
        due("no PARENT of the last one", x.column(1, 2), -9);
        due("no PARENT of one alone", new OutOrder().column(0, 2), -9);
        due("those ahead are not BEHIND", x.column(2, 3), 2);
    }

    private void widthIsTheMost() {
        due("one UNKNOWN", new OutOrder().width(), 0);
        due("none JOINED", Tables.with(o -> o.table(24, 2)).width(), 0);
        due("one pair", Tables.with(o -> Tables.joined(o, 24, 2, new int[] {22, 23})).width(), 1);
        due("all JOINED", Tables.with(o -> Tables.fullOf(o, 24, 2)).width(), 23);
        due("JOINED by FILLS", Tables.with(o -> Tables.starOf(o, 24, 2)).width(), 23);
    }

    private void groups() {
        groupsAre(new OutOrder(), 1);
        groupsAre(Tables.with(o -> Tables.fullOf(o, 24, 2)), 0xffffff);
        groupsAre(Tables.with(o -> Tables.pathOf(o, 4, 2)), 3, 6, 12);
        groupsAre(Tables.with(o -> Tables.ringOf(o, 4, 2)), 11, 14);
        groupsAre(Tables.with(o -> Tables.starOf(o, 4, 2)), 15);
        OutOrder star = Tables.with(o -> Tables.starOf(o, 4, 2));
        star.swap(0, 3);
        groupsAre(star, 3, 5, 9);
    }

    private void groupsLeastFirst() {
        OutOrder alone = Tables.with(o -> o.table(24, 2));
        alone.order(6);
        int[] bits = new int[24];
        for (int u = 0; u < 24; u++) {
            bits[u] = 1 << u;
        }
        groupsAre(alone, bits);
        groupsAre(Tables.with(o -> Tables.joined(o, 4, 2, new int[] {0, 3}, new int[] {1, 2})), 6, 9);
        groupsAre(Tables.with(o -> Tables.joined(o, 3, 2, new int[] {0, 2})), 2, 5);
    }

    // ---- RULES

    private void askRules() {
        sentence("0 NUMBERS.", this::byNumbers);
        sentence("in 1 with the fewest NEIGHBOURS then, in 2 with the fewest FILLS if it went OUT now", this::fewest);
        sentence("of several the least number, goes OUT", this::leastNumber);
        sentence("in all three rules HELD ones only when all others are OUT.", this::heldOnesLast);
        sentence("3 SEARCH: the last one is UNKNOWN 0", this::searchEndsWithNought);
        sentence("that is JOINED (by numbers, without FILLS) with the most of those placed", this::searchByNumbers);
        sentence("4 LEAST FILL: of all ORDERS with the fewest FILLS the first one", this::leastFill);
        sentence("5 LEAST WIDTH: likewise of those with the least WIDTH.", this::leastWidth);
        sentence("6 BACK: the ORDER that is there, turned about.", this::turnedAbout);
    }

    private static int[] from(int first, int step, int count) {
        int[] row = new int[count];
        for (int i = 0; i < count; i++) {
            row[i] = first + step * i;
        }
        return row;
    }

    private void byNumbers() {
        OutOrder x = new OutOrder();
        due("one UNKNOWN", x.order(0), 0);
        rowIs(x, 0);
        x.table(24, 2);
        x.order(6);
        due("24 UNKNOWNS", x.order(0), 0);
        rowIs(x, from(0, 1, 24));
    }

    /** Four that are all JOINED have more NEIGHBOURS than four in a ring, and fewer FILLS. */
    private void fewest() {
        int[][] pairs = {{0, 1}, {0, 2}, {0, 3}, {1, 2}, {1, 3}, {2, 3}, {4, 5}, {5, 6}, {6, 7}, {7, 4}};
        OutOrder x = Tables.with(o -> Tables.joined(o, 8, 7, pairs));
        due("order(1)", x.order(1), 1);
        rowIs(x, 4, 5, 6, 7, 0, 1, 2, 3);
        due("order(2)", x.order(2), 1);
        rowIs(x, 0, 1, 2, 3, 4, 5, 6, 7);
        for (int rule = 1; rule <= 2; rule++) {
            OutOrder star = Tables.with(o -> Tables.starOf(o, 24, 7));
            due("no FILL, order(" + rule + ") of a star", star.order(rule), 0);
            due("the middle, when it has one NEIGHBOUR", star.at(22), 0);
            due("the last one", star.at(23), 23);
        }
    }

    private void leastNumber() {
        for (int rule = 1; rule <= 2; rule++) {
            for (int n : new int[] {1, 4, 24}) {
                OutOrder x = Tables.with(o -> Tables.ringOf(o, n, 3));
                due("order(" + rule + ") of a ring of " + n, x.order(rule), Math.max(0, n - 3));
                rowIs(x, from(0, 1, n));
            }
            OutOrder y = Tables.with(o -> o.table(24, 3));
            y.order(6);
            y.order(rule);
            rowIs(y, from(0, 1, 24));
        }
    }

    private void heldOnesLast() {
        for (int rule = 0; rule <= 2; rule++) {
            OutOrder x = Tables.with(o -> o.table(4, 3));
            x.hold(0, true);
            x.order(rule);
            rowIs(x, 1, 2, 3, 0);
            x.hold(1, true);
            x.hold(2, true);
            x.order(rule);
            rowIs(x, 3, 0, 1, 2);
            x.hold(3, true);
            x.order(rule);
            rowIs(x, 0, 1, 2, 3);
            OutOrder y = Tables.with(o -> Tables.starOf(o, 24, 3));
            for (int u = 1; u < 24; u++) {
                y.hold(u, true);
            }
            due("all HELD but the middle, order(" + rule + ")", y.order(rule), 253);
            y.hold(0, true);
            due("all HELD, order(" + rule + ")", y.order(rule), rule == 0 ? 253 : 0);
        }
    }

    private void searchEndsWithNought() {
        OutOrder x = new OutOrder();
        due("one UNKNOWN", x.order(3), 0);
        rowIs(x, 0);
        x.table(24, 2);
        due("none JOINED", x.order(3), 0);
        rowIs(x, from(23, -1, 24));
        OutOrder star = Tables.with(o -> Tables.joined(o, 3, 2, new int[] {2, 1}));
        due("0 alone", star.order(3), 0);
        rowIs(star, 2, 1, 0);
    }

    private void searchByNumbers() {
        OutOrder x = Tables.with(o -> Tables.joined(o, 4, 2, new int[] {3, 0}, new int[] {3, 1}, new int[] {3, 2}));
        x.swap(0, 3);
        due("all JOINED by FILLS of the ORDER", x.fills(), 3);
        due("all JOINED by FILLS in GOING", x.out(3), 3);
        due("order(3)", x.order(3), 0);
        rowIs(x, 2, 1, 3, 0);
    }

    private void leastFill() {
        OutOrder x = new OutOrder();
        due("one UNKNOWN", x.order(4), 0);
        rowIs(x, 0);
        x.table(12, 2);
        x.order(6);
        due("none JOINED", x.order(4), 0);
        rowIs(x, from(0, 1, 12));
        OutOrder full = Tables.with(o -> Tables.fullOf(o, 12, 2));
        full.order(6);
        due("all JOINED", full.order(4), 0);
        rowIs(full, from(0, 1, 12));
        OutOrder star = Tables.with(o -> Tables.starOf(o, 12, 2));
        due("a star", star.order(4), 0);
        rowIs(star, 1, 2, 3, 4, 5, 6, 7, 8, 9, 10, 0, 11);
    }

    private void leastWidth() {
        OutOrder x = new OutOrder();
        due("one UNKNOWN", x.order(5), 0);
        rowIs(x, 0);
        x.table(12, 2);
        x.order(6);
        due("none JOINED", x.order(5), 0);
        rowIs(x, from(0, 1, 12));
        // In a row of three and two more that are JOINED: 0 may not go first, as 2 would be BEHIND it.
        OutOrder y = Tables.with(o -> Tables.joined(o, 5, 2, new int[] {0, 1}, new int[] {0, 2}, new int[] {3, 4}));
        due("WIDTH 1", y.order(5), 0);
        rowIs(y, 1, 0, 2, 3, 4);
        // With three of them in a ring WIDTH is 2 anyway, and 0 may go first, though that has a FILL.
        int[][] pairs = {{0, 1}, {0, 2}, {3, 4}, {4, 5}, {5, 3}};
        OutOrder z = Tables.with(o -> Tables.joined(o, 6, 2, pairs));
        due("WIDTH 2", z.order(5), 1);
        rowIs(z, 0, 1, 2, 3, 4, 5);
        due("LEAST FILL of the same", z.order(4), 0);
        rowIs(z, 1, 0, 2, 3, 4, 5);
    }

    private void turnedAbout() {
        for (int n : new int[] {1, 2, 3, 13, 24}) {
            OutOrder x = Tables.with(o -> o.table(n, 2));
            x.hold(n - 1, true);
            due("order(6), " + n, x.order(6), 0);
            rowIs(x, from(n - 1, -1, n));
            due("order(6) again, " + n, x.order(6), 0);
            rowIs(x, from(0, 1, n));
        }
        OutOrder star = Tables.with(o -> Tables.starOf(o, 24, 2));
        due("FILLS of the ORDER turned about", star.order(6), 0);
        due("and back", star.order(6), 253);
    }

    // ---- RINGS

    private void askRings() {
        sentence("RING: UNKNOWNS in a ring, 4 or more", this::fourOrMore);
        sentence("each JOINED with the next one, and no others of them JOINED.", this::noOthersJoined);
        sentence("(By numbers, without FILLS.)", this::ringsByNumbers);
    }

    private void fourOrMore() {
        int[][] cases = {{1, 0}, {2, 0}, {3, 0}, {4, 4}, {5, 5}, {23, 23}, {24, 24}};
        for (int[] c : cases) {
            OutOrder x = Tables.with(o -> Tables.ringOf(o, c[0], 2));
            due("ring() of " + c[0], x.ring(), c[1]);
            due("isClean() of " + c[0], x.isClean(), c[1] == 0);
        }
    }

    private void noOthersJoined() {
        OutOrder x = Tables.with(o -> Tables.ringOf(o, 4, 2));
        x.put(0, 2, 1);
        due("four, two of them JOINED across", x.ring(), 0);
        OutOrder y = Tables.with(o -> Tables.ringOf(o, 5, 2));
        y.put(0, 2, 1);
        due("five, two of them JOINED across", y.ring(), 4);
        y.put(0, 3, 1);
        due("five, twice", y.ring(), 0);
        due("no next one", Tables.with(o -> Tables.pathOf(o, 24, 2)).ring(), 0);
        due("all JOINED", Tables.with(o -> Tables.fullOf(o, 24, 2)).ring(), 0);
    }

    private void ringsByNumbers() {
        OutOrder x = Tables.with(o -> Tables.ringOf(o, 4, 2));
        due("a FILL of the ORDER", x.fills(), 1);
        due("a FILL in GOING", x.out(0), 1);
        due("ring()", x.ring(), 4);
        due("isClean()", x.isClean(), false);
        OutOrder star = Tables.with(o -> Tables.starOf(o, 24, 2));
        star.out(1);
        due("a star, ring()", star.ring(), 0);
    }

    // ---- REFUSALS

    private void askRefusals() {
        sentence("the call answers the number, the first that fits in the order in which it tells them", this::firstThatFits);
        sentence("nothing changes but how many there were", this::nothingChanges);
        sentence("-1 NOBODY: no such UNKNOWN, place.", this::nobody);
        sentence("-2 OTHER: no such RULE; no prime.", this::other);
        sentence("-3 OUT: it is OUT.", this::itIsOut);
        sentence("-4 BELOW: a number below the least.", this::below);
        sentence("-5 STATE: something is HELD; not WORKED; a PIVOT 0.", this::state);
        sentence("-6 ROOM: a number above the greatest; more than 12 UNKNOWNS where that is too many.", this::room);
    }

    private static void thirteenHeld(OutOrder x) {
        Tables.ringOf(x, 13, 2);
        x.hold(12, true);
    }

    private void firstThatFits() {
        int[][] tables = {{0, 32750, -4}, {25, 1, -4}, {0, 4, -4}, {0, 1, -4}, {LOW, HIGH, -4}, {HIGH, LOW, -4}, {25, 4, -6}, {25, 32750, -6}};
        for (int[] t : tables) {
            refusedAnywhere("table(" + t[0] + ", " + t[1] + ")", t[2], x -> x.table(t[0], t[1]));
        }
        refused("-2, not -5 or -6: order(7)", TermsBoundaries::thirteenHeld, -2, x -> x.order(7));
        refused("-2, not -5 or -6: order(-1)", TermsBoundaries::thirteenHeld, -2, x -> x.order(-1));
        refused("-5, not -6: order(4)", TermsBoundaries::thirteenHeld, -5, x -> x.order(4));
        refused("-5, not -6: order(5)", TermsBoundaries::thirteenHeld, -5, x -> x.order(5));
        refused("-2, not -6: least(2)", TermsBoundaries::thirteenHeld, -2, x -> x.least(2));
        refused("-2, not -6: least(-1)", TermsBoundaries::thirteenHeld, -2, x -> x.least(-1));
        refused("-1, not -9: column(6, 6)", Tables::rich, -1, x -> x.column(6, 6));
        refused("-1, not -9: going(6, 4)", Tables::rich, -1, x -> x.going(6, 4));
        refused("-3, not -9: going(2, 4)", Tables::rich, -3, x -> x.going(2, 4));
        refused("-1, not -5: pivot(6)", Tables::six, -1, x -> x.pivot(6));
        refused("-1, not -5: one(6, 0)", Tables::six, -1, x -> x.one(6, 0));
        refused("-1, not -5: one(0, 6)", Tables::six, -1, x -> x.one(0, 6));
        refused("-1, not -5: solve(6)", Tables::six, -1, x -> x.solve(6));
        refused("-1, not -5: inside(6, 0)", Tables::six, -1, x -> x.inside(6, 0));
        refused("-1, not -5: inside(0, 6)", Tables::six, -1, x -> x.inside(0, 6));
        refused("-1, not -4: round(0, 6)", Tables::rich, -1, x -> x.round(0, 6));
        refused("-1, not -6: round(25, -1)", Tables::rich, -1, x -> x.round(25, -1));
    }

    /** One after the other, so that what one of them leaves behind would tell in the next one. */
    private static void wrongCalls(OutOrder x) {
        x.table(0, 7);
        x.table(25, 7);
        x.table(6, 4);
        x.put(0, 6, 5);
        x.put(6, 0, 5);
        x.number(-1, 0);
        x.order(7);
        x.order(4);
        x.swap(0, 6);
        x.swap(6, 0);
        x.at(6);
        x.column(6, 0);
        x.least(2);
        x.out(2);
        x.out(6);
        x.going(0, 0);
        x.going(6, 0);
        x.pivot(6);
        x.one(0, 6);
        x.side(6, 5);
        x.side(-1, 5);
        x.solve(6);
        x.inside(0, 6);
        x.plan(0);
        x.plan(25);
        x.round(0, 0);
        x.round(25, 0);
        x.round(1, 6);
    }

    private void nothingChanges() {
        refused("after 28 wrong calls", x -> {
            Tables.rich(x);
            wrongCalls(x);
        }, -1, x -> x.at(-1));
        OutOrder x = Tables.with(Tables::rich);
        OutOrder twin = Tables.with(Tables::rich);
        wrongCalls(x);
        int[] counts = {0, 16, 3, 2, 3, 1, 3};
        for (int k = 1; k <= 6; k++) {
            due("REFUSALS " + -k, x.status(10 + k), counts[k]);
            due("REFUSALS " + -k + " of the twin", twin.status(10 + k), 0);
        }
        for (int what = 0; what <= 7; what++) {
            due("status(" + what + ")", x.status(what), twin.status(what));
        }
        for (int u = 0; u < 6; u++) {
            due("the ORDER", x.at(u), twin.at(u));
            due("GOING", x.going(u, 2), twin.going(u, 2));
            due("the WORK", x.pivot(u), twin.pivot(u));
            due("the right side", x.side(u, 0), twin.side(u, 0));
        }
    }

    private void counted(OutOrder x, int refusal, Twin.Call... calls) {
        int before = x.status(10 - refusal);
        for (int i = 0; i < calls.length; i++) {
            due("call " + i, calls[i].on(x), refusal);
            due("how many after call " + i, x.status(10 - refusal), before + i + 1);
        }
    }

    private void nobody() {
        counted(Tables.with(Tables::rich), -1,
                x -> x.put(-1, 0, 1), x -> x.put(0, 6, 1), x -> x.put(6, 6, 1),
                x -> x.number(-1, 0), x -> x.number(0, 6), x -> x.number(-1, 6),
                x -> x.swap(-1, 0), x -> x.swap(0, 6), x -> x.swap(6, 6), x -> x.at(-1), x -> x.at(6),
                x -> x.column(-1, 0), x -> x.column(6, 0), x -> x.out(-1), x -> x.out(6),
                x -> x.going(-1, 0), x -> x.going(6, 0), x -> x.pivot(-1), x -> x.pivot(6),
                x -> x.one(-1, 0), x -> x.one(0, 6), x -> x.one(6, 6), x -> x.side(-1, 0), x -> x.side(6, 0),
                x -> x.solve(-1), x -> x.solve(6), x -> x.inside(-1, 0), x -> x.inside(0, 6),
                x -> x.round(1, -1), x -> x.round(1, 6));
    }

    private void other() {
        counted(Tables.with(Tables::rich), -2,
                x -> x.table(6, 4), x -> x.order(-1), x -> x.order(7), x -> x.least(-1), x -> x.least(2));
    }

    private void itIsOut() {
        counted(Tables.with(Tables::rich), -3,
                x -> x.out(2), x -> x.out(0), x -> x.going(2, 0), x -> x.going(0, 3), x -> x.going(2, -1));
    }

    private void below() {
        counted(Tables.with(Tables::rich), -4,
                x -> x.table(0, 7), x -> x.table(6, 1), x -> x.plan(0), x -> x.round(0, 0));
    }

    private void state() {
        counted(Tables.with(Tables::rich), -5, x -> x.order(3), x -> x.order(4), x -> x.order(5));
        counted(Tables.with(Tables::stuck), -5,
                x -> x.pivot(2), x -> x.one(2, 2), x -> x.worth(), x -> x.solve(0), x -> x.inside(0, 0));
        counted(Tables.with(Tables::nought), -5, x -> x.solve(0), x -> x.inside(0, 0));
    }

    private void room() {
        counted(Tables.with(o -> Tables.ringOf(o, 13, 2)), -6,
                x -> x.table(25, 7), x -> x.table(6, 32750), x -> x.order(4), x -> x.order(5),
                x -> x.least(0), x -> x.least(1), x -> x.plan(25), x -> x.round(25, 0));
    }
}
