/** Objects in a state that tests begin with. */
final class Tables {
    interface Setup {
        void on(OutOrder x);
    }

    private Tables() {
    }

    static OutOrder with(Setup setup) {
        OutOrder x = new OutOrder();
        setup.on(x);
        return x;
    }

    static void ringOf(OutOrder x, int n, int p) {
        x.table(n, p);
        for (int u = 0; u < n; u++) {
            x.put(u, (u + 1) % n, 1);
        }
    }

    /** All others are JOINED with 0 alone. */
    static void starOf(OutOrder x, int n, int p) {
        x.table(n, p);
        for (int u = 1; u < n; u++) {
            x.put(0, u, 1);
        }
    }

    /** Each one is JOINED with the next one. */
    static void pathOf(OutOrder x, int n, int p) {
        x.table(n, p);
        for (int u = 1; u < n; u++) {
            x.put(u - 1, u, 1);
        }
    }

    static void fullOf(OutOrder x, int n, int p) {
        x.table(n, p);
        for (int u = 0; u < n; u++) {
            for (int w = u + 1; w < n; w++) {
                x.put(u, w, 1);
            }
        }
    }

    static void joined(OutOrder x, int n, int p, int[]... pairs) {
        x.table(n, p);
        for (int[] pair : pairs) {
            x.put(pair[0], pair[1], 1);
        }
    }

    /** A ring of six with 0 and 3 JOINED. */
    static void six(OutOrder x) {
        ringOf(x, 6, 101);
        x.put(0, 3, 1);
    }

    /** Something of everything: HELD, OUT, WORKED, right sides, an ORDER of its own. */
    static void rich(OutOrder x) {
        six(x);
        for (int u = 0; u < 6; u++) {
            x.put(u, u, 3 + u);
            x.side(u, 7 * u + 1);
        }
        x.hold(5, true);
        x.order(1);
        x.swap(1, 4);
        x.work();
        x.out(2);
        x.out(0);
    }

    /** STUCK at UNKNOWN 1. */
    static void stuck(OutOrder x) {
        square(x, 7, 1, 1, 1, 1, 1, 0, 1, 0, 1);
        x.work();
    }

    /** All WORKED, and a PIVOT is 0. */
    static void nought(OutOrder x) {
        square(x, 7, 1, 1, 1, 1);
        x.work();
    }

    static void two(OutOrder x) {
        square(x, 7, 1, 2, 2, 3);
    }

    /** None JOINED, u with itself is u + 1, its right side twice that, all WORKED; 24 were there before. */
    static void units(OutOrder x, int n) {
        x.table(24, 101);
        x.put(0, 23, 9);
        x.table(n, 101);
        for (int u = 0; u < n; u++) {
            x.put(u, u, u + 1);
            x.side(u, 2 * (u + 1));
        }
        x.work();
    }

    /** All numbers of the TABLE, row by row. */
    static void square(OutOrder x, int p, int... numbers) {
        int n = 1;
        while (n * n < numbers.length) {
            n++;
        }
        x.table(n, p);
        for (int i = 0; i < numbers.length; i++) {
            x.put(i / n, i % n, numbers[i]);
        }
    }
}
