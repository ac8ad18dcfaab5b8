/** What several tests build their charts from. */
final class Charts {
    /** The expressions that every chart of withTrue() has. */
    static final int INPUT_7 = 0;
    static final int TRUE = 2;
    static final int INPUT_0 = 3;

    /**
     * Charts of eight steps in part 0, found by a search, whose scans make almost as many different states as eight
     * steps and their times allow, which is 511.
     */
    static final Rows UNSTABLE_AFTER_MANY = new Rows(248,
            new int[][] {{3, 3, 0}, {3, 4, 0}, {4, 3, 1}, {4, 6, 1}, {5, 0, 0}, {5, 1, 0}, {3, 5, 0}, {5, 6, 0},
                {3, 0, 0}, {3, 1, 0}, {3, 2, 0}, {4, 5, 1}, {6, 7, 9}, {7, 2, 5}, {5, 3, 0}, {5, 9, 0}, {4, 4, 1},
                {5, 11, 0}, {7, 12, 16}, {5, 8, 0}, {6, 15, 19}, {5, 10, 0}},
            new int[][] {{32, 33, 20}, {3, 4, 21}, {8, 9, 20}, {253, 2, 14}, {62, 64, 8}, {126, 128, 17}, {4, 5, 20},
                {2, 3, 19}, {1, 2, 15}, {15, 17, 13}, {31, 32, 18}, {7, 8, 4}});
    static final Rows AT_REST_AFTER_MANY = new Rows(241,
            new int[][] {{3, 2, 0}, {3, 6, 0}, {5, 0, 0}, {5, 1, 0}, {4, 5, 1}, {3, 0, 0}, {3, 5, 0}, {3, 4, 0},
                {4, 7, 1}, {4, 4, 1}, {5, 7, 0}, {7, 3, 8}, {3, 1, 0}, {5, 5, 0}, {4, 6, 1}, {5, 8, 0}, {5, 12, 0},
                {5, 6, 0}, {3, 3, 0}, {5, 18, 0}, {5, 4, 0}, {6, 14, 15}},
            new int[][] {{63, 129, 21}, {8, 9, 13}, {1, 2, 16}, {1, 32, 9}, {31, 33, 17}, {255, 1, 20}, {2, 3, 13},
                {63, 65, 11}, {4, 5, 13}, {15, 17, 10}, {11, 4, 2}, {3, 8, 19}});

    /** The initial steps, and what expression() and transition() are called with. */
    record Rows(int initial, int[][] expressions, int[][] transitions) {
        ForcedChart chart() {
            ForcedChart c = new ForcedChart();
            steps(c, 0, 8, initial);
            for (int[] e : expressions) {
                c.expression(e[0], e[1], e[2]);
            }
            for (int[] t : transitions) {
                c.transition(t[0], t[1], t[2]);
            }
            return c;
        }
    }

    private Charts() {
    }

    static ForcedChart withTrue() {
        ForcedChart c = new ForcedChart();
        c.expression(0, 7, 0);
        c.expression(5, 0, 0);
        c.expression(7, 0, 1);
        c.expression(0, 0, 0);
        return c;
    }

    /** Adds steps to a part; the set tells which of these, counted from 0, are initial. */
    static void steps(ForcedChart c, int part, int count, int initial) {
        for (int i = 0; i < count; i++) {
            c.step(part, (initial >> i & 1) != 0);
        }
    }

    /** A ring of steps 0 .. n - 1 in part 0; each goes on to the next when the input of its number is on. */
    static ForcedChart ring(int n) {
        ForcedChart c = new ForcedChart();
        for (int i = 0; i < n; i++) {
            c.step(0, i == 0);
            c.expression(0, i, 0);
        }
        for (int i = 0; i < n; i++) {
            c.transition(1 << i, 1 << (i + 1) % n, i);
        }
        return c;
    }
}
