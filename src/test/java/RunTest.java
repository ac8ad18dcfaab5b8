/** Promises 8 to 13, 16 and 17: how a chart runs that does not settle, and what it tells. */
public final class RunTest {
    private static final int REFUSED = ForcedChart.REFUSED;

    public static void main(String[] args) {
        start();
        nothingIsLeftOfEarlierRuns();
        stop();
        refusedScans();
        inputsAreMasked();
        risingAndFalling();
        expressionsOfSteps();
        expressionsOfExpressions();
        times();
        stepsThatStay();
        oneAfterTheOther();
        oneEvolutionOnly();
        forksAndJoins();
        enabled();
        fixedOrders();
        freezeOrders();
        leastOrderRules();
        ordersFollowTheNextSituation();
        evolutionsAndCleared();
        Check.end();
    }

    /** A ring of steps 0 .. n - 1 in part 0; each goes on to the next when the input of its number is on. */
    private static ForcedChart ring(int n) {
        ForcedChart c = new ForcedChart();
        for (int i = 0; i < n; i++) {
            c.step(0, i == 0);
            c.expression(0, i, 0);
        }
        for (int i = 0; i < n; i++) {
            c.transition(1 << i, 1 << (i + 1) % n, i);
        }
        return c;
    }

    /** A chart with the one step 0 of part 0, initial, and an expression that is always true (number 2). */
    private static ForcedChart withTrue() {
        ForcedChart c = new ForcedChart();
        c.step(0, true);
        c.expression(0, 7, 0);
        c.expression(5, 0, 0);
        c.expression(7, 0, 1);
        return c;
    }

    private static void start() {
        ForcedChart c = new ForcedChart();
        c.step(0, false);
        Check.due("start without initial step", c.start(true), false);
        Check.due("it does not run", c.scan(0, 0), REFUSED);
        Check.due("it is built on", c.step(2, true), 1);
        Check.due("start", c.start(false), true);
        Check.due("the initial steps are active", c.active(), 2);
        Check.due("their time is 0", c.time(1), 0);
        Check.due("start again", c.start(true), false);
        Check.due("scan", c.scan(0, 5), 0);
        Check.due("start again", c.start(false), false);
        Check.due("a refused start changes nothing", c.time(1), 5);
    }

    private static void nothingIsLeftOfEarlierRuns() {
        ForcedChart c = ring(2);
        c.expression(1, 2, 0);
        c.transition(1, 2, 2);
        c.action(1, 2, 0, 0);
        c.action(1, 0, 1, 0);
        c.action(0, 5, 2, 0);
        c.start(false);
        c.scan(1 | 4, 9);
        Check.due("first run", c.active(), 2);
        Check.due("first run: outputs", c.outputs(), 3);
        Check.due("first run: cleared", c.cleared(), 1);
        c.stop();
        c.start(false);
        Check.due("second run: active", c.active(), 1);
        Check.due("second run: time(0)", c.time(0), 0);
        Check.due("second run: time(1)", c.time(1), 0);
        Check.due("second run: outputs", c.outputs(), 0);
        Check.due("second run: stored", c.stored(0), false);
        Check.due("second run: evolutions", c.evolutions(), 0);
        Check.due("second run: cleared", c.cleared(), 0);
        Check.due("second run: input 2 rises again", c.scan(4, 0), 1);
        Check.due("second run: outputs", c.outputs(), 3);
        c.scan(2, 0);
        c.stop();
        c.start(false);
        c.scan(0, 0);
        Check.due("third run: step 0 was not active before", c.outputs(), 4);
        c.stop();
        c.step(0, true);
        c.start(false);
        Check.due("a run of what was built since", c.active(), 1 | 4);
    }

    private static void stop() {
        ForcedChart c = ring(2);
        c.action(1, 2, 0, 0);
        c.stop();
        Check.due("stop before start", c.start(false), true);
        c.scan(1, 3);
        c.scan(1, 3);
        c.scan(3, 3);
        c.scan(1, 3);
        Check.due("before stop: outputs", c.outputs(), 1);
        Check.due("before stop: stored", c.stored(0), true);
        Check.due("before stop: evolutions", c.evolutions(), 1);
        Check.due("before stop: cleared", c.cleared(), 1);
        c.scan(1, 3);
        Check.due("before stop: time", c.time(1), 3);
        c.stop();
        Check.due("stop: active", c.active(), 0);
        Check.due("stop: time", c.time(1), 0);
        Check.due("stop: enabled", c.enabled(), 0);
        Check.due("stop: outputs", c.outputs(), 0);
        Check.due("stop: stored", c.stored(0), false);
        Check.due("stop: evolutions", c.evolutions(), 0);
        Check.due("stop: cleared", c.cleared(), 0);
        Check.due("stop: lead", c.lead(), 0);
        Check.due("stop: period", c.period(), 0);
        Check.due("stop: scan", c.scan(1, 1), REFUSED);
        c.stop();
        Check.due("stop twice: active", c.active(), 0);
        Check.due("start after it", c.start(false), true);
    }

    private static void refusedScans() {
        ForcedChart c = ring(2);
        Check.due("scan before start", c.scan(1, 1), REFUSED);
        c.start(false);
        c.scan(0, 4);
        Check.due("dt -1", c.scan(1, -1), REFUSED);
        Check.due("dt 1000001", c.scan(1, 1000001), REFUSED);
        Check.due("least dt", c.scan(1, Integer.MIN_VALUE), REFUSED);
        Check.due("greatest dt", c.scan(1, Integer.MAX_VALUE), REFUSED);
        Check.due("active", c.active(), 1);
        Check.due("time", c.time(0), 4);
        Check.due("dt 1000000", c.scan(0, 1000000), 0);
        Check.due("time", c.time(0), 1000004);
        Check.due("dt 0", c.scan(1, 0), 1);
        Check.due("evolutions", c.evolutions(), 1);
        Check.due("refused", c.scan(0, -1), REFUSED);
        Check.due("evolutions as before", c.evolutions(), 1);
        Check.due("cleared as before", c.cleared(), 1);

        ForcedChart d = new ForcedChart();
        d.step(0, true);
        d.step(0, false);
        d.expression(1, 0, 0);
        d.transition(1, 2, 0);
        d.start(false);
        d.scan(1, -1);
        Check.due("a refused scan takes no rise away", d.scan(1, 0), 1);
    }

    private static void inputsAreMasked() {
        ForcedChart c = new ForcedChart();
        c.step(0, true);
        c.step(0, false);
        c.step(0, false);
        c.expression(0, 7, 0);
        c.expression(2, 7, 0);
        c.transition(1, 2, 0);
        c.transition(2, 4, 1);
        c.start(false);
        Check.due("members above 7 do not count", c.scan(~255, 0), 0);
        Check.due("input 7", c.scan(128 | 256, 0), 1);
        Check.due("input 7 in a negative number", c.scan(-1, 0), 0);
        Check.due("input 7 falls", c.scan(Integer.MIN_VALUE | 256, 0), 1);
        Check.due("active", c.active(), 4);
    }

    private static void risingAndFalling() {
        ForcedChart c = new ForcedChart();
        c.step(0, true);
        c.step(0, false);
        c.expression(1, 3, 0);
        c.expression(2, 3, 0);
        c.transition(1, 2, 0);
        c.transition(2, 1, 1);
        c.start(false);
        Check.due("off stays off", c.scan(0, 0), 0);
        Check.due("another rises", c.scan(4, 0), 0);
        Check.due("rises", c.scan(8, 0), 1);
        Check.due("active", c.active(), 2);
        Check.due("on stays on", c.scan(8, 0), 0);
        Check.due("falls", c.scan(0, 0), 1);
        Check.due("active", c.active(), 1);
        Check.due("off stays off", c.scan(0, 0), 0);
        c.stop();
        c.start(false);
        Check.due("rises in the first scan", c.scan(8, 0), 1);
    }

    private static void expressionsOfSteps() {
        ForcedChart c = new ForcedChart();
        c.step(0, true);
        c.step(0, false);
        c.step(1, true);
        c.step(1, false);
        c.step(1, false);
        c.expression(0, 0, 0);
        c.expression(3, 1, 0);
        c.expression(4, 1, 10);
        c.transition(1, 2, 0);
        c.transition(4, 8, 1);
        c.transition(8, 16, 2);
        c.start(false);
        Check.due("step 1 is not active", c.scan(0, 50), 0);
        Check.due("what is due is judged by the situation before", c.scan(1, 50), 1);
        Check.due("active", c.active(), 2 | 4);
        Check.due("step 1 is active", c.scan(0, 9), 1);
        Check.due("active", c.active(), 2 | 8);
        Check.due("time 9", c.scan(0, 0), 0);
        Check.due("time 10", c.scan(0, 1), 1);
        Check.due("active", c.active(), 2 | 16);

        ForcedChart d = new ForcedChart();
        d.step(0, true);
        d.step(0, false);
        d.step(1, false);
        d.expression(4, 2, 0);
        d.expression(4, 0, 0);
        d.transition(1, 2, 0);
        d.start(false);
        Check.due("a step that is not active has no time of 0", d.scan(0, 0), 0);
        d.stop();
        d.transition(1, 2, 1);
        d.start(false);
        Check.due("an active one has", d.scan(0, 0), 1);
    }

    private static void expressionsOfExpressions() {
        for (int inputs = 0; inputs < 4; inputs++) {
            boolean a = (inputs & 1) != 0;
            boolean b = (inputs & 2) != 0;
            String given = " with inputs " + inputs;
            Check.due("not" + given, isTrue(5, inputs), !a);
            Check.due("both" + given, isTrue(6, inputs), a && b);
            Check.due("either" + given, isTrue(7, inputs), a || b);
        }
    }

    private static boolean isTrue(int kind, int inputs) {
        ForcedChart c = new ForcedChart();
        c.step(0, true);
        c.step(0, false);
        c.expression(0, 0, 0);
        c.expression(0, 1, 0);
        c.transition(1, 2, c.expression(kind, 0, 1));
        c.start(false);
        return c.scan(inputs, 0) == 1;
    }

    private static void times() {
        ForcedChart c = ring(2);
        c.start(false);
        c.scan(0, 7);
        Check.due("time(0)", c.time(0), 7);
        Check.due("time of an inactive step", c.time(1), 0);
        c.scan(0, 6);
        Check.due("time(0)", c.time(0), 13);
        c.scan(1, 5);
        Check.due("time of a step that ended", c.time(0), 0);
        Check.due("time of a step that became active", c.time(1), 0);
        c.scan(0, 5);
        Check.due("time(1)", c.time(1), 5);
        Check.due("time(0)", c.time(0), 0);
        c.scan(2, 5);
        c.scan(0, 2);
        Check.due("time begins anew", c.time(0), 2);
        Check.due("time(2)", c.time(2), 0);
        Check.due("time(-1)", c.time(-1), 0);
        Check.due("time(8)", c.time(8), 0);
        Check.due("time of the least", c.time(Integer.MIN_VALUE), 0);
        Check.due("time of the greatest", c.time(Integer.MAX_VALUE), 0);
        c.stop();
        c.start(false);
        for (int i = 0; i < 400; i++) {
            c.scan(0, 1000000);
        }
        Check.due("a long time", c.time(0), 400000000);
    }

    private static void stepsThatStay() {
        ForcedChart c = withTrue();
        c.step(0, false);
        c.transition(1, 1 | 2, 2);
        c.start(false);
        Check.due("a loop clears", c.scan(0, 4), 1);
        Check.due("the step in both stays active", c.time(0), 4);
        Check.due("the other is new", c.time(1), 0);
        Check.due("a loop without change is not idle", c.scan(0, 4), 1);
        Check.due("active", c.active(), 3);
        Check.due("a succeeding step that was active stays", c.time(1), 4);
        Check.due("time(0)", c.time(0), 8);
    }

    private static void oneAfterTheOther() {
        ForcedChart c = withTrue();
        c.step(0, true);
        c.step(0, true);
        c.step(0, false);
        c.step(0, false);
        c.transition(1 | 2, 8, 0);
        c.transition(2 | 4, 8, 2);
        c.transition(1, 16, 2);
        c.transition(4, 16, 2);
        c.start(false);
        c.scan(128, 0);
        Check.due("0 first, then 3, which has nothing in common with it", c.cleared(), 1 | 8);
        Check.due("active", c.active(), 8 | 16);
        c.stop();
        c.start(false);
        c.scan(0, 0);
        Check.due("0 is not due and keeps no step", c.cleared(), 2 | 4);
        c.stop();
        c.start(true);
        c.scan(128, 0);
        Check.due("all if the chart settles", c.cleared(), 15);

        ForcedChart d = withTrue();
        d.step(0, false);
        d.transition(1, 2, 2);
        d.transition(2, 1, 2);
        d.start(false);
        d.scan(0, 0);
        d.scan(0, 0);
        Check.due("steps are kept for one evolution only", d.cleared(), 2);
        Check.due("a succeeding step is not in common", d.active(), 1);
    }

    private static void oneEvolutionOnly() {
        ForcedChart c = ring(4);
        c.start(false);
        Check.due("one evolution", c.scan(3, 0), 1);
        Check.due("active", c.active(), 2);
        Check.due("one more", c.scan(3, 0), 1);
        Check.due("active", c.active(), 4);
        Check.due("idle", c.scan(3, 0), 0);
        c.stop();
        c.start(true);
        Check.due("two evolutions", c.scan(3, 0), 2);
        Check.due("active", c.active(), 4);
        c.stop();
        c.start(false);
        Check.due("not settling again", c.scan(3, 0), 1);
    }

    private static void forksAndJoins() {
        ForcedChart c = withTrue();
        c.step(0, false);
        c.step(0, false);
        c.step(0, false);
        c.transition(1, 2 | 4, 2);
        c.transition(2 | 4, 8, 0);
        c.transition(4 | 8, 1, 2);
        c.start(false);
        c.scan(0, 0);
        Check.due("fork", c.active(), 2 | 4);
        Check.due("a join with one step missing is not enabled", c.enabled(), 2);
        Check.due("join not due", c.scan(0, 0), 0);
        c.scan(128, 0);
        Check.due("join", c.active(), 8);
    }

    private static void enabled() {
        ForcedChart c = ring(3);
        c.transition(1, 1, 2);
        Check.due("enabled before start", c.enabled(), 0);
        c.start(false);
        Check.due("enabled", c.enabled(), 1 | 8);
        c.scan(1, 0);
        Check.due("enabled", c.enabled(), 2);

        ForcedChart d = withTrue();
        d.step(1, true);
        d.transition(2, 2, 2);
        d.order(0, 1, ForcedChart.FREEZE);
        d.start(false);
        d.scan(0, 0);
        Check.due("orders have no part in it", d.enabled(), 1);
        Check.due("but forbid to clear", d.cleared(), 0);
    }

    private static void fixedOrders() {
        ForcedChart c = withTrue();
        c.step(1, true);
        c.step(1, false);
        c.step(1, false);
        c.step(2, true);
        c.transition(2, 8, 2);
        c.order(0, 1, 4 | 2);
        c.order(0, 2, 0);
        c.start(false);
        Check.due("orders are not obeyed at start", c.active(), 1 | 2 | 16);
        Check.due("forced", c.scan(0, 5), 1);
        Check.due("active", c.active(), 1 | 2 | 4);
        Check.due("no transition is cleared", c.cleared(), 0);
        Check.due("a step in the fixed set stays", c.time(1), 5);
        Check.due("a forced step is new", c.time(2), 0);
        Check.due("forced again is idle", c.scan(0, 5), 0);
        Check.due("time(1)", c.time(1), 10);
        Check.due("time(2)", c.time(2), 5);
        Check.due("a step that is forced out", c.time(4), 0);
    }

    private static void freezeOrders() {
        ForcedChart c = withTrue();
        c.step(0, false);
        c.step(1, true);
        c.step(1, false);
        c.transition(1, 2, 0);
        c.transition(4, 8, 2);
        c.order(0, 1, ForcedChart.FREEZE);
        c.start(false);
        Check.due("frozen", c.scan(0, 3), 0);
        Check.due("active", c.active(), 1 | 4);
        Check.due("time goes on", c.time(2), 3);
        Check.due("freed in the same evolution", c.scan(128, 3), 1);
        Check.due("active", c.active(), 2 | 8);
        Check.due("cleared", c.cleared(), 3);
    }

    private static void leastOrderRules() {
        ForcedChart c = new ForcedChart();
        c.step(0, true);
        c.step(0, true);
        c.step(1, true);
        c.step(2, false);
        c.step(2, false);
        c.step(2, false);
        c.expression(0, 0, 0);
        c.transition(1, 2, 0);
        c.transition(4, 4, 0);
        c.order(0, 2, 8);
        c.order(2, 2, 16);
        c.order(1, 2, 32);
        c.order(1, 1, 0);
        c.start(false);
        c.scan(0, 0);
        Check.due("order 0 rules, and order 3 over the other part", c.active(), 1 | 2 | 8);
        c.scan(1, 0);
        Check.due("order 2 rules: the step of 1 is gone", c.active(), 2 | 32);
    }

    private static void ordersFollowTheNextSituation() {
        ForcedChart c = new ForcedChart();
        c.step(0, true);
        c.step(0, false);
        c.step(1, false);
        c.step(2, true);
        c.step(2, false);
        c.expression(0, 0, 0);
        c.transition(1, 2, 0);
        c.order(1, 1, 4);
        c.order(2, 2, 16);
        c.start(false);
        Check.due("one evolution goes through the parts", c.scan(1, 2), 1);
        Check.due("active", c.active(), 2 | 4 | 16);

        ForcedChart d = new ForcedChart();
        d.step(2, true);
        d.step(1, false);
        d.step(0, true);
        d.step(2, false);
        d.order(1, 2, 8);
        d.order(2, 1, 2);
        d.start(false);
        d.scan(0, 0);
        Check.due("parts go by their numbers, not by those of steps and orders", d.active(), 2 | 4 | 8);
    }

    private static void evolutionsAndCleared() {
        ForcedChart c = ring(3);
        c.start(true);
        Check.due("evolutions before a scan", c.evolutions(), 0);
        Check.due("cleared before a scan", c.cleared(), 0);
        c.scan(1 | 2, 0);
        Check.due("evolutions", c.evolutions(), 2);
        Check.due("cleared in all of them", c.cleared(), 1 | 2);
        c.scan(0, 0);
        Check.due("evolutions of an idle scan", c.evolutions(), 0);
        Check.due("cleared of an idle scan", c.cleared(), 0);
        c.scan(4, 0);
        Check.due("evolutions", c.evolutions(), 1);
        Check.due("cleared", c.cleared(), 4);
        Check.due("unstable", c.scan(7, 0), ForcedChart.UNSTABLE);
        Check.due("evolutions as before", c.evolutions(), 1);
        Check.due("cleared as before", c.cleared(), 4);
    }
}
