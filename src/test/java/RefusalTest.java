import java.util.ArrayList;
import java.util.List;
import java.util.function.ToIntFunction;

/**
 * Terms: "A call that is refused changes nothing." Each refused call is put at each place of a run at which it must be
 * refused: the chart tells then what it told before, and all calls that follow answer what they answer without it.
 */
public final class RefusalTest {
    private static final int LEAST = Integer.MIN_VALUE;
    private static final int GREATEST = Integer.MAX_VALUE;
    private static final int LONGEST = 1000000;

    private record Call(String name, ToIntFunction<ForcedChart> body) {
        int on(ForcedChart chart) {
            return body.applyAsInt(chart);
        }
    }

    /** Which calls must be refused from a place of the run on. */
    private enum Phase { WITHOUT_INITIAL_STEP, BUILDING, FULL, RUNNING }

    private final List<Call> run = new ArrayList<>();
    private final List<Phase> phases = new ArrayList<>();
    private Phase phase = Phase.WITHOUT_INITIAL_STEP;

    public static void main(String[] args) {
        Check.about("Terms: A call that is refused changes nothing.");
        roomyRun().check();
        fullRun().check();
        Check.end();
    }

    private void add(String name, ToIntFunction<ForcedChart> body) {
        run.add(new Call(name, body));
        phases.add(phase);
    }

    private void step(int part, boolean initial) {
        add("step", c -> c.step(part, initial));
    }

    private void expression(int kind, int a, int b) {
        add("expression", c -> c.expression(kind, a, b));
    }

    private void transition(int from, int to, int expression) {
        add("transition", c -> c.transition(from, to, expression));
    }

    private void order(int step, int part, int fixed) {
        add("order", c -> c.order(step, part, fixed));
    }

    private void action(int step, int qualifier, int variable, int duration) {
        add("action", c -> c.action(step, qualifier, variable, duration));
    }

    private void start(boolean settles) {
        add("start", c -> c.start(settles) ? 1 : 0);
        phase = Phase.RUNNING;
    }

    private void stop(Phase next) {
        add("stop", c -> {
            c.stop();
            return 0;
        });
        phase = next;
    }

    private void scan(int inputs, int dt) {
        add("scan(" + inputs + ", " + dt + ")", c -> c.scan(inputs, dt));
        add("active", ForcedChart::active);
        add("outputs", ForcedChart::outputs);
        add("cleared", ForcedChart::cleared);
        add("lead", ForcedChart::lead);
        add("time(1)", c -> c.time(1));
    }

    /** Expression 0 is that input 0 is on; expression n up to 4 has the depth n. */
    private void expressionsUpToDepth4() {
        expression(0, 0, 0);
        expression(5, 0, 0);
        expression(6, 0, 1);
        expression(7, 2, 0);
        expression(5, 3, 0);
    }

    /** A chart that is never full, built further after its first runs. */
    private static RefusalTest roomyRun() {
        RefusalTest r = new RefusalTest();
        r.step(0, false);
        r.step(0, true);
        r.phase = Phase.BUILDING;
        r.step(0, false);
        r.step(1, true);
        r.step(1, false);
        r.step(2, false);
        r.expressionsUpToDepth4();
        r.expression(1, 1, 0);
        r.expression(2, 1, 0);
        r.expression(4, 1, 5);
        r.expression(6, 7, 1);
        r.expression(7, 5, 6);
        r.transition(2, 4, 5);
        r.transition(4, 2, 6);
        r.transition(2, 1, 8);
        r.transition(1, 2, 9);
        r.transition(8, 16, 0);
        r.transition(16, 8, 0);
        r.order(2, 1, 16);
        r.order(4, 2, 32);
        r.action(1, 5, 0, 0);
        r.action(1, 6, 1, 0);
        r.action(2, 7, 2, 4);
        r.action(2, 9, 3, 4);
        r.action(0, 8, 4, 2);
        r.action(0, 1, 3, 0);
        r.start(false);
        r.scan(0, 1);
        r.scan(2, 1);
        r.scan(2, 3);
        r.scan(0, 1);
        r.scan(0, 4);
        r.scan(0, 2);
        r.stop(Phase.BUILDING);
        r.start(true);
        r.scan(1, 1);
        r.scan(2, 2);
        r.scan(1, 2);
        r.scan(0, 2);
        r.stop(Phase.BUILDING);
        r.step(2, true);
        r.transition(64, 32, 0);
        r.action(6, 2, 7, 0);
        r.start(true);
        r.scan(2, 1);
        return r;
    }

    /** A chart with all that there may be. */
    private static RefusalTest fullRun() {
        RefusalTest r = new RefusalTest();
        r.step(0, false);
        r.step(0, true);
        r.phase = Phase.BUILDING;
        for (int step = 2; step < 8; step++) {
            r.step(step / 3, step % 2 == 0);
        }
        r.expressionsUpToDepth4();
        for (int i = 5; i < 17; i++) {
            r.expression(i % 3, i % 8, 0);
        }
        for (int i = 17; i < 24; i++) {
            r.expression(6 + i % 2, i - 12, i - 8);
        }
        int[][] ends = {{1, 2}, {2, 4}, {4, 1}, {1, 4}, {2 | 4, 1}, {8, 16}, {16, 32}, {32, 8}, {16, 8}, {64, 128},
            {128, 64}, {128, 64 | 128}};
        for (int i = 0; i < 12; i++) {
            r.transition(ends[i][0], ends[i][1], i < 3 ? 0 : 2 * i + 1);
        }
        r.order(0, 1, 8 | 32);
        r.order(2, 2, ForcedChart.FREEZE);
        r.order(3, 2, 64);
        r.order(5, 2, 0);
        for (int i = 0; i < 12; i++) {
            r.action(i % 8, i % 10, i % 5, i);
        }
        r.phase = Phase.FULL;
        r.start(false);
        for (int i = 0; i < 6; i++) {
            r.scan(37 * i, i);
        }
        r.stop(Phase.FULL);
        r.start(true);
        for (int i = 0; i < 6; i++) {
            r.scan(201 * i, i);
        }
        r.stop(Phase.FULL);
        return r;
    }

    private static List<Call> refusedIn(Phase phase) {
        List<Call> calls = new ArrayList<>();
        addWrongSteps(calls);
        addWrongExpressions(calls);
        addWrongTransitions(calls);
        addWrongOrders(calls);
        addWrongActions(calls);
        for (int dt : new int[] {-1, LONGEST + 1, LEAST, GREATEST}) {
            calls.add(new Call("scan(255, " + dt + ")", c -> c.scan(255, dt)));
        }
        if (phase != Phase.RUNNING) {
            calls.add(new Call("scan(255, 7)", c -> c.scan(255, 7)));
            calls.add(new Call("scan(0, 0)", c -> c.scan(0, 0)));
        }
        if (phase == Phase.RUNNING || phase == Phase.WITHOUT_INITIAL_STEP) {
            calls.add(new Call("start(true)", c -> c.start(true) ? 1 : ForcedChart.REFUSED));
            calls.add(new Call("start(false)", c -> c.start(false) ? 1 : ForcedChart.REFUSED));
        }
        if (phase == Phase.RUNNING || phase == Phase.FULL) {
            addGoodBuilding(calls);
        }
        return calls;
    }

    private static void addWrongSteps(List<Call> calls) {
        for (int part : new int[] {-1, 3, LEAST, GREATEST}) {
            calls.add(new Call("step(" + part + ", true)", c -> c.step(part, true)));
            calls.add(new Call("step(" + part + ", false)", c -> c.step(part, false)));
        }
    }

    private static void addWrongExpressions(List<Call> calls) {
        int[][] wrong = {{-1, 0, 0}, {8, 0, 0}, {0, -1, 0}, {0, 8, 0}, {1, -1, 0}, {1, 8, 0}, {2, -1, 0}, {2, 8, 0},
            {3, -1, 0}, {3, 8, 0}, {4, -1, 0}, {4, 8, 0}, {4, 1, -1}, {4, 1, LONGEST + 1}, {5, -1, 0}, {5, 24, 0},
            {6, -1, 0}, {6, 24, 0}, {6, 0, -1}, {6, 0, 24}, {7, -1, 0}, {7, 24, 0}, {7, 0, -1}, {7, 0, 24},
            {5, 4, 0}, {6, 4, 0}, {6, 0, 4}, {7, 4, 0}, {7, 0, 4}};
        for (int[] w : wrong) {
            calls.add(new Call("expression(" + w[0] + ", " + w[1] + ", " + w[2] + ")",
                    c -> c.expression(w[0], w[1], w[2])));
        }
    }

    private static void addWrongTransitions(List<Call> calls) {
        int[][] wrong = {{0, 2, 0}, {2, 0, 0}, {0, 0, 0}, {256, 2, 0}, {2, 256, 0}, {LEAST | 2, 2, 0}, {-1, 2, 0},
            {2, -1, 0}, {2, 8, 0}, {2 | 8, 2, 0}, {2, 2 | 8, 0}, {2, 2, -1}, {2, 2, 24}};
        for (int[] w : wrong) {
            calls.add(new Call("transition(" + w[0] + ", " + w[1] + ", " + w[2] + ")",
                    c -> c.transition(w[0], w[1], w[2])));
        }
    }

    private static void addWrongOrders(List<Call> calls) {
        int[][] wrong = {{-1, 1, 0}, {8, 1, 0}, {1, 0, 0}, {1, -1, 0}, {1, 3, 0}, {1, 1, 1}, {1, 1, 256},
            {1, 1, -2}, {1, 1, LEAST}, {1, 0, ForcedChart.FREEZE}, {5, 1, 0}};
        for (int[] w : wrong) {
            calls.add(new Call("order(" + w[0] + ", " + w[1] + ", " + w[2] + ")", c -> c.order(w[0], w[1], w[2])));
        }
    }

    private static void addWrongActions(List<Call> calls) {
        int[][] wrong = {{-1, 0, 0, 0}, {8, 0, 0, 0}, {1, -1, 0, 0}, {1, 10, 0, 0}, {1, 2, -1, 0}, {1, 2, 8, 0},
            {1, 1, 0, -1}, {1, 0, 0, LONGEST + 1}};
        for (int[] w : wrong) {
            calls.add(new Call("action(" + w[0] + ", " + w[1] + ", " + w[2] + ", " + w[3] + ")",
                    c -> c.action(w[0], w[1], w[2], w[3])));
        }
    }

    private static void addGoodBuilding(List<Call> calls) {
        calls.add(new Call("step(0, true)", c -> c.step(0, true)));
        calls.add(new Call("step(2, false)", c -> c.step(2, false)));
        for (int kind = 0; kind <= 7; kind++) {
            int its = kind;
            calls.add(new Call("expression(" + kind + ", 0, 0)", c -> c.expression(its, 0, 0)));
        }
        calls.add(new Call("transition(2, 1, 0)", c -> c.transition(2, 1, 0)));
        calls.add(new Call("order(1, 1, 0)", c -> c.order(1, 1, 0)));
        calls.add(new Call("order(1, 1, FREEZE)", c -> c.order(1, 1, ForcedChart.FREEZE)));
        for (int qualifier = 0; qualifier <= 9; qualifier++) {
            int its = qualifier;
            calls.add(new Call("action(1, " + qualifier + ", 0, 0)", c -> c.action(1, its, 0, 0)));
        }
    }

    private void check() {
        int[] due = new int[run.size()];
        boolean unstable = false;
        ForcedChart undisturbed = new ForcedChart();
        for (int i = 0; i < due.length; i++) {
            due[i] = run.get(i).on(undisturbed);
            Check.due("call " + i + " of the run itself is good", due[i] != ForcedChart.REFUSED, true);
            unstable |= due[i] == ForcedChart.UNSTABLE;
        }
        Check.due("a scan of the run is unstable", unstable, true);
        String end = Check.look(undisturbed);
        for (int place = 0; place < due.length; place++) {
            for (Call refused : refusedIn(phases.get(place))) {
                checkWith(refused, place, due, end);
            }
        }
    }

    private void checkWith(Call refused, int place, int[] due, String end) {
        ForcedChart c = new ForcedChart();
        for (int i = 0; i < place; i++) {
            run.get(i).on(c);
        }
        String name = refused.name() + " before call " + place;
        String before = Check.look(c);
        Check.due(name, refused.on(c), ForcedChart.REFUSED);
        Check.due("all that is told after " + name, Check.look(c), before);
        for (int i = place; i < due.length; i++) {
            Check.due(run.get(i).name() + ", call " + i + ", after " + name, run.get(i).on(c), due[i]);
        }
        Check.due("all that is told at the end after " + name, Check.look(c), end);
    }
}
