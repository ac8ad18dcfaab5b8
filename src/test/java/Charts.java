/** What several tests build their charts from. */
final class Charts {
    /** The expressions that every chart of withTrue() has. */
    static final int INPUT_7 = 0;
    static final int TRUE = 2;
    static final int INPUT_0 = 3;

    private Charts() {
    }

    static ForcedChart withTrue() {
        ForcedChart c = new ForcedChart();
        c.expression(0, 7, 0);
        c.expression(5, 0, 0);
        c.expression(7, 0, 1);
        c.expression(0, 0, 0);
        return c;
    }

    /** Adds steps to a part; the set tells which of these, counted from 0, are initial. */
    static void steps(ForcedChart c, int part, int count, int initial) {
        for (int i = 0; i < count; i++) {
            c.step(part, (initial >> i & 1) != 0);
        }
    }

    /** A ring of steps 0 .. n - 1 in part 0; each goes on to the next when the input of its number is on. */
    static ForcedChart ring(int n) {
        ForcedChart c = new ForcedChart();
        for (int i = 0; i < n; i++) {
            c.step(0, i == 0);
            c.expression(0, i, 0);
        }
        for (int i = 0; i < n; i++) {
            c.transition(1 << i, 1 << (i + 1) % n, i);
        }
        return c;
    }
}
