/** Promise 7: which steps are not reached. */
public final class UnreachedTest {
    public static void main(String[] args) {
        initialSteps();
        transitionsFromReachedSteps();
        chainAgainstTheNumbers();
        ordersOfReachedSteps();
        emptyAndFreeze();
        ordersAndTransitionsByTurns();
        noOthers();
        runsHaveNoPart();
        Check.end();
    }

    private static void initialSteps() {
        Check.about("Promise 7: Reached are: the initial steps");
        ForcedChart c = new ForcedChart();
        Check.due("no step", c.unreached(), 0);
        c.step(0, false);
        Check.due("one step, not initial", c.unreached(), 1);
        c.step(1, true);
        Check.due("one of two is initial", c.unreached(), 1);
        Charts.steps(c, 2, 6, 0);
        Check.due("one of eight is initial", c.unreached(), 255 - 2);

        ForcedChart d = new ForcedChart();
        Charts.steps(d, 1, 8, 0);
        Check.due("none of eight", d.unreached(), 255);
        ForcedChart e = new ForcedChart();
        Charts.steps(e, 1, 8, 255);
        Check.due("all of eight", e.unreached(), 0);
    }

    private static void transitionsFromReachedSteps() {
        Check.about("Promise 7: the succeeding steps of a transition all of whose preceding steps are reached");
        ForcedChart c = Charts.withTrue();
        Charts.steps(c, 1, 5, 1);
        c.transition(1 | 2, 4, Charts.TRUE);
        Check.due("not all preceding steps are reached", c.unreached(), 2 | 4 | 8 | 16);
        int never = c.expression(6, Charts.INPUT_7, 1);
        c.transition(1, 2 | 8, never);
        Check.due("all are, whatever the expression says", c.unreached(), 16);
        c.transition(8 | 4, 16, Charts.TRUE);
        Check.due("all steps", c.unreached(), 0);
    }

    private static void chainAgainstTheNumbers() {
        Check.about("Promise 7: the succeeding steps of a transition all of whose preceding steps are reached");
        for (int part = 0; part < 3; part++) {
            ForcedChart c = Charts.withTrue();
            Charts.steps(c, part, 8, 128);
            // One pass in the order of the numbers reaches one more step only.
            for (int i = 0; i < 6; i++) {
                c.transition(2 << i, 1 << i, Charts.TRUE);
            }
            Check.due("a chain that hangs on nothing", c.unreached(), 127);
            c.transition(128, 64, Charts.TRUE);
            Check.due("a chain of seven links", c.unreached(), 0);
        }
    }

    private static void ordersOfReachedSteps() {
        Check.about("Promise 7: the steps in the fixed set of an order whose step is reached");
        ForcedChart c = Charts.withTrue();
        Charts.steps(c, 0, 2, 1);
        Charts.steps(c, 1, 2, 0);
        Charts.steps(c, 2, 2, 0);
        c.order(1, 1, 8);
        Check.due("the order's step is not reached", c.unreached(), 2 | 4 | 8 | 16 | 32);
        c.order(0, 2, 16 | 32);
        Check.due("it is", c.unreached(), 2 | 4 | 8);
        c.transition(1, 2, Charts.TRUE);
        Check.due("a transition reaches the first order's step", c.unreached(), 4);
        c.order(3, 2, 16);
        c.order(1, 1, 4);
        Check.due("two orders of one step", c.unreached(), 0);
    }

    private static void emptyAndFreeze() {
        Check.about("Promise 7: the steps in the fixed set of an order; Terms: (it may be empty), or FREEZE instead");
        ForcedChart c = new ForcedChart();
        Charts.steps(c, 0, 2, 2);
        Charts.steps(c, 1, 2, 0);
        Charts.steps(c, 2, 4, 0);
        c.order(1, 1, ForcedChart.FREEZE);
        c.order(1, 2, ForcedChart.FREEZE);
        Check.due("FREEZE reaches nothing", c.unreached(), 255 - 2);
        c.order(1, 1, 0);
        Check.due("the empty set reaches nothing", c.unreached(), 255 - 2);
    }

    private static void ordersAndTransitionsByTurns() {
        Check.about("Promise 7: the succeeding steps of a transition ..; the steps in the fixed set of an order ..");
        ForcedChart c = Charts.withTrue();
        Charts.steps(c, 2, 2, 0);
        Charts.steps(c, 1, 2, 0);
        Charts.steps(c, 0, 2, 2);
        c.transition(2, 1, Charts.TRUE);
        c.order(2, 2, 2);
        c.transition(8, 4, Charts.TRUE);
        c.order(4, 1, 8);
        Check.due("the last link is missing", c.unreached(), 1 | 2 | 4 | 8 | 16);
        c.transition(32, 16, Charts.TRUE);
        Check.due("all links", c.unreached(), 0);
    }

    private static void noOthers() {
        Check.about("Promise 7: no others");
        ForcedChart c = Charts.withTrue();
        Charts.steps(c, 0, 5, 1);
        c.transition(2, 2, Charts.TRUE);
        Check.due("a loop does not reach itself", c.unreached(), 30);
        c.transition(4, 8, Charts.TRUE);
        c.transition(8, 4, Charts.TRUE);
        Check.due("nor do two steps each other", c.unreached(), 30);
        c.transition(1 | 16, 16, Charts.TRUE);
        Check.due("nor does a step of which the other is reached", c.unreached(), 30);
        c.expression(3, 2, 0);
        c.action(2, 2, 0, 0);
        Check.due("expressions and actions reach nothing", c.unreached(), 30);
        Check.due("preceding steps are not reached by what succeeds", c.transition(2, 1, Charts.TRUE), 4);
        Check.due("unreached", c.unreached(), 30);
    }

    private static void runsHaveNoPart() {
        Check.about("Promise 7: The set of steps that are not REACHED");
        ForcedChart c = Charts.ring(3);
        c.step(1, false);
        c.start(true);
        Check.due("while it runs", c.unreached(), 8);
        c.scan(1, 1);
        Check.due("after a scan", c.unreached(), 8);
        Check.due("unstable", c.scan(7, 1), ForcedChart.UNSTABLE);
        Check.due("after an unstable one", c.unreached(), 8);
        c.stop();
        Check.due("after stop", c.unreached(), 8);
        c.step(1, true);
        Check.due("after more was built", c.unreached(), 8);
    }
}
