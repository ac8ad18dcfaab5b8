/** Promises 10, 18 and 19: how a settling chart comes to rest, and what it tells if it does not. */
public final class SettleTest {
    private static final int UNSTABLE = ForcedChart.UNSTABLE;
    private static final int REFUSED = ForcedChart.REFUSED;

    public static void main(String[] args) {
        settles();
        edgesAreForTheFirstEvolution();
        firstEvolutionMayBeTheIdleOne();
        loopWithoutChange();
        unstableChangesNothing();
        leadAndPeriodLast();
        timesCountInTheCycle();
        timesEndACycle();
        leadCountsTheWayIn();
        longPeriod();
        forcedToSettle();
        unstableByOrders();
        Check.end();
    }

    /** A chart with an expression that is always true (number 2) and one for input 0 (number 3). */
    private static ForcedChart withTrue() {
        ForcedChart c = new ForcedChart();
        c.expression(0, 7, 0);
        c.expression(5, 0, 0);
        c.expression(7, 0, 1);
        c.expression(0, 0, 0);
        return c;
    }

    private static void steps(ForcedChart c, int part, int count, int initial) {
        for (int i = 0; i < count; i++) {
            c.step(part, (initial >> i & 1) != 0);
        }
    }

    private static void settles() {
        ForcedChart c = withTrue();
        steps(c, 0, 4, 1);
        c.transition(1, 2, 3);
        c.transition(2, 4, 2);
        c.transition(4, 8, 2);
        c.start(true);
        Check.due("at rest", c.scan(0, 5), 0);
        Check.due("three evolutions", c.scan(1, 5), 3);
        Check.due("active", c.active(), 8);
        Check.due("time of the last", c.time(3), 0);
        Check.due("cleared", c.cleared(), 7);
        Check.due("lead", c.lead(), 0);
        Check.due("period", c.period(), 0);
    }

    private static void edgesAreForTheFirstEvolution() {
        ForcedChart c = withTrue();
        steps(c, 0, 4, 1);
        int rises = c.expression(1, 0, 0);
        int falls = c.expression(2, 0, 0);
        c.transition(1, 2, rises);
        c.transition(2, 4, rises);
        c.transition(4, 8, falls);
        c.transition(8, 1, falls);
        c.start(true);
        Check.due("rises once", c.scan(1, 0), 1);
        Check.due("active", c.active(), 2);
        Check.due("does not rise", c.scan(1, 0), 0);
        Check.due("falls for nothing", c.scan(0, 0), 0);
        Check.due("rises again", c.scan(1, 0), 1);
        Check.due("falls once", c.scan(0, 0), 1);
        Check.due("active", c.active(), 8);
    }

    private static void firstEvolutionMayBeTheIdleOne() {
        ForcedChart c = withTrue();
        steps(c, 0, 2, 1);
        int rises = c.expression(1, 0, 0);
        c.transition(1, 2, c.expression(5, rises, 0));
        c.start(true);
        Check.due("idle because input 0 rises", c.scan(1, 0), 0);
        Check.due("active", c.active(), 1);
        Check.due("not idle when it does not", c.scan(1, 0), 1);
    }

    private static void loopWithoutChange() {
        ForcedChart c = withTrue();
        steps(c, 0, 1, 1);
        c.transition(1, 1, c.expression(1, 0, 0));
        c.transition(1, 1, c.expression(0, 1, 0));
        c.start(true);
        Check.due("a loop on an edge ends", c.scan(1, 4), 1);
        Check.due("time", c.time(0), 4);
        Check.due("a loop without end", c.scan(2, 4), UNSTABLE);
        Check.due("lead", c.lead(), 1);
        Check.due("period", c.period(), 1);
        Check.due("time", c.time(0), 4);
    }

    private static void unstableChangesNothing() {
        ForcedChart c = withTrue();
        steps(c, 0, 3, 1);
        c.transition(1, 2, 3);
        c.transition(2, 1, 3);
        c.transition(1, 4, c.expression(1, 1, 0));
        c.transition(4, 1, c.expression(2, 1, 0));
        c.action(0, 5, 0, 0);
        c.action(0, 9, 1, 10);
        c.action(1, 2, 2, 0);
        c.action(1, 6, 3, 0);
        c.start(true);
        Check.due("unstable before all else", c.scan(1, 6), UNSTABLE);
        Check.due("time", c.time(0), 0);
        Check.due("outputs", c.outputs(), 0);
        Check.due("stored", c.stored(1), false);
        Check.due("evolutions", c.evolutions(), 0);
        Check.due("cleared", c.cleared(), 0);
        Check.due("at rest", c.scan(0, 3), 0);
        Check.due("the first scan that counts", c.outputs(), 1 | 2);
        Check.due("unstable", c.scan(1 | 2, 1000), UNSTABLE);
        Check.due("active", c.active(), 1);
        Check.due("enabled", c.enabled(), 1 | 4);
        Check.due("time", c.time(0), 3);
        Check.due("outputs", c.outputs(), 1 | 2);
        Check.due("stored", c.stored(1), true);
        Check.due("stored", c.stored(2), false);
        Check.due("rest, and no age grew", c.scan(0, 9), 0);
        Check.due("outputs", c.outputs(), 2);
        Check.due("unstable", c.scan(1 | 2, 1000), UNSTABLE);
        Check.due("input 1 still rises", c.scan(2, 0), 1);
        Check.due("active", c.active(), 4);
        Check.due("outputs: age 9", c.outputs(), 2);
        Check.due("evolutions", c.evolutions(), 1);
        Check.due("cleared", c.cleared(), 4);
        Check.due("unstable because input 1 falls", c.scan(1, 7), UNSTABLE);
        Check.due("active", c.active(), 4);
        Check.due("evolutions", c.evolutions(), 1);
        Check.due("input 1 still falls", c.scan(0, 1), 1);
        Check.due("outputs: step 0 begins, age 10", c.outputs(), 1);
    }

    private static void leadAndPeriodLast() {
        ForcedChart c = withTrue();
        steps(c, 0, 2, 1);
        c.transition(1, 2, 3);
        c.transition(2, 1, 3);
        c.start(true);
        c.scan(1, 0);
        Check.due("lead", c.lead(), 1);
        Check.due("period", c.period(), 2);
        Check.due("refused", c.scan(0, -1), REFUSED);
        c.step(0, true);
        c.start(false);
        Check.due("lead after what is refused", c.lead(), 1);
        Check.due("period after what is refused", c.period(), 2);
        Check.due("rest", c.scan(0, 0), 0);
        Check.due("lead", c.lead(), 0);
        Check.due("period", c.period(), 0);
        c.scan(1, 0);
        c.stop();
        Check.due("lead after stop", c.lead(), 0);
        Check.due("period after stop", c.period(), 0);
        c.start(true);
        Check.due("lead after start", c.lead(), 0);
        Check.due("period after start", c.period(), 0);
        c.stop();
        c.start(false);
        Check.due("not settling", c.scan(1, 0), 1);
        Check.due("lead when not settling", c.lead(), 0);
        Check.due("period when not settling", c.period(), 0);
    }

    /** Part 0 goes round 0, 1, 2; part 1 leaves step 3 with step 2 and comes back with step 0. */
    private static void timesCountInTheCycle() {
        ForcedChart c = withTrue();
        steps(c, 0, 3, 1);
        steps(c, 1, 2, 1);
        c.transition(1, 2, 3);
        c.transition(2, 4, 3);
        c.transition(4, 1, 3);
        c.transition(8, 16, c.expression(3, 2, 0));
        c.transition(16, 8, c.expression(3, 0, 0));
        c.start(true);
        Check.due("unstable", c.scan(1, 0), UNSTABLE);
        Check.due("lead if all times are 0", c.lead(), 1);
        Check.due("period", c.period(), 3);
        Check.due("unstable", c.scan(1, 5), UNSTABLE);
        Check.due("lead if step 3 has a time at first", c.lead(), 3);
        Check.due("period", c.period(), 3);
        Check.due("rest", c.scan(0, 5), 0);
        Check.due("unstable", c.scan(1, 0), UNSTABLE);
        Check.due("lead with a time from the scan before", c.lead(), 3);
    }

    private static void timesEndACycle() {
        ForcedChart c = withTrue();
        steps(c, 0, 2, 1);
        c.transition(1, 2, c.expression(4, 0, 5));
        c.transition(2, 1, 2);
        c.start(true);
        Check.due("too early", c.scan(0, 4), 0);
        Check.due("round once, then the time is 0", c.scan(0, 1), 2);
        Check.due("active", c.active(), 1);
        Check.due("time", c.time(0), 0);
    }

    private static void leadCountsTheWayIn() {
        ForcedChart c = withTrue();
        steps(c, 0, 6, 1);
        c.transition(1, 2, c.expression(1, 0, 0));
        c.transition(2, 4, 2);
        c.transition(4, 8, 2);
        c.transition(8, 16, 2);
        c.transition(16, 32, 2);
        c.transition(32, 16, 2);
        c.start(true);
        Check.due("unstable", c.scan(1, 1), UNSTABLE);
        Check.due("lead", c.lead(), 4);
        Check.due("period", c.period(), 2);
    }

    /** Steps 1 .. 7 are a shift register fed back from 6 and 7, step 0 is what feeds it. */
    private static void longPeriod() {
        ForcedChart c = withTrue();
        steps(c, 0, 8, 1);
        int seven = c.expression(3, 7, 0);
        int six = c.expression(3, 6, 0);
        int either = c.expression(7, seven, six);
        int both = c.expression(6, seven, six);
        int differ = c.expression(6, either, c.expression(5, both, 0));
        c.transition(1, 3, c.expression(6, differ, 3));
        for (int i = 1; i < 7; i++) {
            c.transition(1 << i, 1 << i + 1, 3);
        }
        c.transition(128, 1, 3);
        c.transition(1, 3, c.expression(1, 1, 0));
        c.start(true);
        Check.due("an empty register is at rest", c.scan(1, 1), 0);
        for (int i = 0; i < 20; i++) {
            Check.due("unstable", c.scan(3, 1), UNSTABLE);
            Check.due("lead", c.lead(), 1);
            Check.due("period", c.period(), 127);
        }
    }

    private static void forcedToSettle() {
        ForcedChart c = withTrue();
        steps(c, 0, 2, 1);
        steps(c, 1, 2, 1);
        c.transition(1, 2, 3);
        c.transition(4, 8, 2);
        c.transition(8, 4, 2);
        c.order(1, 1, 8);
        c.start(true);
        Check.due("unstable", c.scan(0, 1), UNSTABLE);
        Check.due("forced at once", c.scan(1, 1), 1);
        Check.due("active", c.active(), 2 | 8);
        Check.due("cleared", c.cleared(), 1);
        Check.due("at rest", c.scan(0, 1), 0);
    }

    /** The order forces step 3 as soon as step 1 is active; step 3 sends step 1 away, and all begins again. */
    private static void unstableByOrders() {
        ForcedChart c = withTrue();
        steps(c, 0, 2, 1);
        steps(c, 1, 2, 1);
        int three = c.expression(3, 3, 0);
        c.transition(1, 2, c.expression(6, 3, c.expression(5, three, 0)));
        c.transition(2, 1, three);
        c.transition(8, 4, three);
        c.order(1, 1, 8);
        c.start(true);
        Check.due("unstable", c.scan(1, 1), UNSTABLE);
        Check.due("lead", c.lead(), 1);
        Check.due("period", c.period(), 2);
        Check.due("active", c.active(), 1 | 4);
    }
}
