/** 'Terms': GOING and its KINDS, the WORK, and the PLAN. */
final class KindsBoundaries extends Boundaries {
    KindsBoundaries(Sentences sentences) {
        super(sentences);
    }

    @Override
    void ask() {
        section("Terms");
        askGoing();
        askWork();
        askPlan();
    }

    // ---- GOING

    private void askGoing() {
        sentence("with the JOINS as they are when it begins (BEGIN; also by table(), put(), and at first)", this::begins);
        sentence("KIND of an UNKNOWN that is not OUT, the first that fits", this::firstKindThatFits);
        sentence("4 HELD: it is held, and one that is not held is not OUT.", this::kindHeld);
        sentence("3 LAST: it has no NEIGHBOUR.", this::kindLast);
        sentence("2 TWIN: another one that is not OUT, of a lesser number, is its NEIGHBOUR", this::kindTwin);
        sentence("and both have the same other NEIGHBOURS.", this::sameOthers);
        sentence("1 SIMPLE: each two of its NEIGHBOURS are JOINED.", this::kindSimple);
        sentence("0 UNKNOWN.", this::kindUnknown);
    }

    private void kindsAre(String what, OutOrder x, int... kinds) {
        for (int u = 0; u < kinds.length; u++) {
            due("KIND of " + u + ", " + what, x.going(u, 0), kinds[u]);
        }
    }

    /** All OUT, so that nothing but a beginning brings one back. */
    private static void starOut(OutOrder x) {
        Tables.starOf(x, 24, 5);
        for (int u = 0; u < 24; u++) {
            x.out(u);
        }
    }

    private void begins() {
        OutOrder first = new OutOrder();
        due("OUT at first", first.status(4), 0);
        due("KIND at first", first.going(0, 0), 3);
        Tables.Setup[] beginnings = {o -> o.begin(), o -> o.put(23, 23, 1), o -> o.put(0, 23, 1), o -> Tables.starOf(o, 24, 5)};
        for (int i = 0; i < beginnings.length; i++) {
            OutOrder x = Tables.with(KindsBoundaries::starOut);
            due("all OUT", x.status(4), 24);
            beginnings[i].on(x);
            due("OUT after beginning " + i, x.status(4), 0);
            due("NEIGHBOURS of 0 after beginning " + i, x.going(0, 2), 0xfffffe);
            due("no FILL is left after beginning " + i, x.going(23, 2), 1);
            due("none is to be taken back after beginning " + i, x.back(), -9);
        }
        Tables.Setup[] others = {
            o -> o.hold(3, true), o -> o.order(6), o -> o.swap(0, 23), o -> o.work(), o -> o.side(0, 1), o -> o.table(0, 5), o -> o.put(24, 0, 1),
        };
        for (int i = 0; i < others.length; i++) {
            OutOrder x = Tables.with(KindsBoundaries::starOut);
            others[i].on(x);
            due("OUT still, after call " + i, x.status(4), 24);
        }
    }

    private void firstKindThatFits() {
        OutOrder x = Tables.with(o -> o.table(2, 5));
        x.hold(1, true);
        kindsAre("1 HELD and LAST", x, 3, 4);
        OutOrder y = Tables.with(o -> Tables.fullOf(o, 3, 5));
        kindsAre("TWIN and SIMPLE", y, 1, 2, 2);
        y.hold(2, true);
        kindsAre("2 HELD, TWIN and SIMPLE", y, 1, 2, 4);
        y.hold(0, true);
        y.hold(1, true);
        kindsAre("all HELD", y, 1, 2, 2);
        due("an OUT one has no KIND", y.out(1), 0);
        due("KIND of an OUT one", y.going(1, 0), -3);
    }

    private void kindHeld() {
        OutOrder x = Tables.with(o -> Tables.pathOf(o, 3, 5));
        kindsAre("none HELD", x, 1, 0, 1);
        x.hold(0, true);
        x.hold(1, true);
        kindsAre("all HELD but one", x, 4, 4, 1);
        x.out(2);
        kindsAre("the one that is not HELD is OUT", x, 1, 2);
        x.back();
        kindsAre("it is back", x, 4, 4, 1);
        x.hold(2, true);
        kindsAre("all HELD", x, 1, 0, 1);
        OutOrder one = new OutOrder();
        one.hold(0, true);
        kindsAre("one alone, HELD", one, 3);
    }

    private void kindLast() {
        kindsAre("one alone", new OutOrder(), 3);
        OutOrder x = Tables.with(o -> o.table(24, 5));
        x.put(23, 23, 1);
        due("JOINED with none but itself", x.going(23, 0), 3);
        OutOrder star = Tables.with(o -> Tables.starOf(o, 24, 5));
        for (int u = 1; u < 24; u++) {
            due("it has a NEIGHBOUR", star.going(0, 0), u == 23 ? 1 : 0);
            star.out(u);
        }
        due("all others are OUT", star.going(0, 0), 3);
    }

    private void kindTwin() {
        OutOrder x = Tables.with(o -> Tables.fullOf(o, 3, 5));
        kindsAre("of a lesser number", x, 1, 2, 2);
        x.out(0);
        due("the lesser one is OUT", x.going(1, 0), 1);
        due("another lesser one is not", x.going(2, 0), 2);
        OutOrder y = Tables.with(o -> Tables.joined(o, 4, 5, new int[] {0, 2}, new int[] {0, 3}, new int[] {1, 2}, new int[] {1, 3}));
        kindsAre("alike, but not JOINED", y, 0, 0, 0, 0);
        OutOrder all = Tables.with(o -> Tables.fullOf(o, 24, 2));
        due("the last of 24", all.going(23, 0), 2);
        due("the first of 24", all.going(0, 0), 1);
    }

    private void sameOthers() {
        kindsAre("no others", Tables.with(o -> Tables.pathOf(o, 2, 5)), 1, 2);
        kindsAre("one has another", Tables.with(o -> Tables.pathOf(o, 3, 5)), 1, 0, 1);
        OutOrder x = Tables.with(o -> Tables.pathOf(o, 3, 5));
        x.out(0);
        due("the other is OUT", x.going(2, 0), 2);
        OutOrder y = Tables.with(o -> Tables.ringOf(o, 4, 5));
        y.out(3);
        kindsAre("the same by a FILL", y, 1, 2, 2);
        int[][] apart = {{0, 1}, {0, 2}, {0, 3}, {1, 2}, {1, 3}};
        kindsAre("the same, and not SIMPLE", Tables.with(o -> Tables.joined(o, 4, 5, apart)), 0, 2, 1, 1);
    }

    private void kindSimple() {
        kindsAre("one NEIGHBOUR", Tables.with(o -> Tables.starOf(o, 3, 5)), 0, 1, 1);
        OutOrder full = Tables.with(o -> Tables.fullOf(o, 5, 5));
        full.put(1, 2, 0);
        kindsAre("one pair is not JOINED", full, 0, 1, 1, 2, 2);
        OutOrder ring = Tables.with(o -> Tables.ringOf(o, 4, 5));
        ring.out(1);
        kindsAre("JOINED by a FILL", ring, 1);
    }

    private void kindUnknown() {
        kindsAre("a ring", Tables.with(o -> Tables.ringOf(o, 4, 5)), 0, 0, 0, 0);
        OutOrder x = Tables.with(o -> Tables.starOf(o, 24, 5));
        due("the middle of a star of 24", x.going(0, 0), 0);
        OutOrder y = Tables.with(o -> Tables.ringOf(o, 24, 5));
        due("the last of a ring of 24", y.going(23, 0), 0);
    }

    // ---- the WORK

    private void askWork() {
        sentence("less the sum over those v ahead that were WORKED and whose PIVOT is not 0", this::pivots);
        sentence("For each w later in the order the REST(w, u)", this::noneLater);
        sentence("If PIVOT(u) is not 0, ONE(w, u) is REST(w, u) divided by it.", this::divided);
        sentence("If it is 0: if all REST(w, u) are 0, ONE(w, u) is 0 for all w, and it goes on", this::goesOn);
        sentence("else the WORK ends there: u is STUCK.", this::stuck);
        sentence("All ahead, and u if it is not STUCK, are WORKED.", this::worked);
    }

    /** All others are JOINED with 23 alone, and 1 with themselves. */
    private static void arrow(OutOrder x, int last) {
        x.table(24, 32749);
        for (int u = 0; u < 23; u++) {
            x.put(u, u, 1);
            x.put(u, 23, 1);
        }
        x.put(23, 23, last);
        x.work();
    }

    private void pivots() {
        OutOrder x = Tables.with(o -> Tables.square(o, 7, 0, 0, 0, 3));
        x.work();
        due("none ahead", x.pivot(0), 0);
        due("one ahead, whose PIVOT is 0", x.pivot(1), 3);
        due("23 ahead, less 1", Tables.with(o -> arrow(o, 22)).pivot(23), 32748);
        due("23 ahead, 0", Tables.with(o -> arrow(o, 23)).pivot(23), 0);
        due("23 ahead, 1", Tables.with(o -> arrow(o, 24)).pivot(23), 1);
        OutOrder y = Tables.with(o -> Tables.square(o, 7, 1, 1, 2, 1, 1, 2, 2, 2, 6));
        y.work();
        due("a PIVOT that becomes 0", y.pivot(1), 0);
        due("it takes no part", y.pivot(2), 2);
    }

    private void noneLater() {
        OutOrder one = new OutOrder();
        due("one alone, a PIVOT 0", one.work(), 1);
        due("it is not STUCK", one.status(6), -9);
        OutOrder x = Tables.with(o -> arrow(o, 23));
        due("the last one, a PIVOT 0", x.status(5), 24);
        due("nobody is STUCK", x.status(6), -9);
        OutOrder y = Tables.with(o -> Tables.square(o, 7, 1, 1, 1, 0));
        y.swap(0, 1);
        due("0 first, with a REST", y.work(), 0);
        y.swap(0, 1);
        due("the other way about", y.work(), 2);
    }

    private void divided() {
        int[][] cases = {{2, 1, 1, 1}, {2, 1, 0, 0}, {3, 2, 1, 2}, {32749, 32748, 1, 32748}, {32749, 32748, 32748, 1}, {32749, 2, 1, 16375}, {32749, 1, 32748, 32748}};
        for (int[] c : cases) {
            OutOrder x = Tables.with(o -> Tables.square(o, c[0], c[1], c[2], c[2], 0));
            x.work();
            due(c[2] + " divided by " + c[1] + " modulo " + c[0], x.one(1, 0), c[3]);
        }
    }

    private void goesOn() {
        OutOrder x = Tables.with(o -> o.table(24, 2));
        due("all 0", x.work(), 24);
        due("PIVOT", x.pivot(0), 0);
        due("ONE of the last one", x.one(23, 0), 0);
        due("ONE with itself", x.one(0, 0), 1);
        OutOrder y = Tables.with(o -> Tables.square(o, 7, 1, 1, 1, 1, 1, 1, 1, 1, 2));
        due("a REST that becomes 0", y.work(), 3);
        due("its PIVOT", y.pivot(1), 0);
        due("its ONE", y.one(2, 1), 0);
        due("the PIVOT after it", y.pivot(2), 1);
    }

    private void stuck() {
        OutOrder x = Tables.with(o -> Tables.pathOf(o, 24, 2));
        due("the first one", x.work(), 0);
        due("it is STUCK", x.status(6), 0);
        OutOrder y = Tables.with(o -> Tables.joined(o, 24, 2, new int[] {22, 23}));
        due("the last but one", y.work(), 22);
        due("it is STUCK", y.status(6), 22);
        y.order(6);
        due("by the ORDER", y.work(), 0);
        due("the other one is STUCK", y.status(6), 23);
        OutOrder z = Tables.with(o -> Tables.joined(o, 3, 2, new int[] {0, 2}));
        due("the last REST alone is not 0", z.work(), 0);
        due("it is STUCK", z.status(6), 0);
    }

    private void worked() {
        OutOrder x = Tables.with(Tables::stuck);
        due("all ahead", x.status(5), 1);
        due("ahead", x.pivot(0), 1);
        due("the STUCK one is not", x.one(1, 1), -5);
        due("one later is not", x.pivot(2), -5);
        OutOrder y = Tables.with(Tables::nought);
        due("with a PIVOT 0, and not STUCK", y.status(5), 2);
        due("one with a PIVOT 0 is", y.one(1, 1), 1);
        due("nobody ahead of the first one", Tables.with(o -> Tables.pathOf(o, 24, 2)).work(), 0);
    }

    // ---- the PLAN

    private void askPlan() {
        sentence("in each ROUND (0, 1, ..) up to h UNKNOWNS are done", this::upToHands);
        sentence("none ahead of those whose PARENT it is (these in ROUNDS before)", this::parentsLater);
        sentence("those with the greatest HEIGHT (how many PARENTS of PARENTS lead on from it)", this::greatestHeight);
        sentence("of several the first in the ORDER.", this::firstInTheOrder);
    }

    private void roundsAre(OutOrder x, int hands, int... rounds) {
        int most = 0;
        for (int u = 0; u < rounds.length; u++) {
            due("round(" + hands + ", " + u + ")", x.round(hands, u), rounds[u]);
            most = Math.max(most, rounds[u]);
        }
        due("plan(" + hands + ")", x.plan(hands), most + 1);
    }

    private void upToHands() {
        roundsAre(new OutOrder(), 1, 0);
        roundsAre(new OutOrder(), 24, 0);
        OutOrder x = Tables.with(o -> o.table(4, 5));
        roundsAre(x, 1, 0, 1, 2, 3);
        roundsAre(x, 3, 0, 0, 0, 1);
        roundsAre(x, 4, 0, 0, 0, 0);
        roundsAre(x, 24, 0, 0, 0, 0);
        OutOrder all = Tables.with(o -> o.table(24, 5));
        due("24 hands for 24", all.plan(24), 1);
        due("23 hands for 24", all.plan(23), 2);
        due("the last one by 23 hands", all.round(23, 23), 1);
        due("one hand for 24", all.plan(1), 24);
    }

    private void parentsLater() {
        roundsAre(Tables.with(o -> Tables.pathOf(o, 4, 5)), 24, 0, 1, 2, 3);
        OutOrder star = Tables.with(o -> Tables.starOf(o, 4, 5));
        star.swap(0, 3);
        roundsAre(star, 24, 1, 0, 0, 0);
        roundsAre(star, 2, 2, 0, 1, 0);
        due("a row of 24 by 24 hands", Tables.with(o -> Tables.pathOf(o, 24, 5)).plan(24), 24);
    }

    private void greatestHeight() {
        OutOrder x = Tables.with(o -> Tables.joined(o, 5, 5, new int[] {2, 3}, new int[] {3, 4}));
        due("no PARENT", x.column(0, 4), 0);
        due("a PARENT of a PARENT", x.column(2, 4), 2);
        roundsAre(x, 1, 2, 3, 0, 1, 4);
        roundsAre(x, 2, 0, 1, 0, 1, 2);
        due("23 PARENTS", Tables.with(o -> Tables.pathOf(o, 24, 5)).column(0, 4), 23);
    }

    private void firstInTheOrder() {
        OutOrder x = Tables.with(o -> o.table(3, 5));
        roundsAre(x, 1, 0, 1, 2);
        x.order(6);
        roundsAre(x, 1, 2, 1, 0);
        x.swap(0, 1);
        roundsAre(x, 1, 2, 0, 1);
    }
}
