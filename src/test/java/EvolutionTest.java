/** Terms: AN EVOLUTION, in charts that do not settle; promises 16 and 17. */
public final class EvolutionTest {
    private static final int FREEZE = ForcedChart.FREEZE;
    private static final int UNSTABLE = ForcedChart.UNSTABLE;

    public static void main(String[] args) {
        exactlyOneEvolution();
        forksAndJoins();
        stepsThatStayActive();
        stepsThatEndAndSucceedAtOnce();
        oneAfterTheOther();
        allIfTheChartSettles();
        dueByTheSituationBefore();
        dueByTheTimesBefore();
        fixedSetRules();
        emptySetRules();
        freezeRules();
        orderWithTheLeastNumberRules();
        ordersByTheStepsInB();
        partsByTheirNumbers();
        orderOfAnotherPart();
        idleOrNot();
        noneSinceStart();
        latestScanThatCounts();
        clearedAtLeastOnce();
        Check.end();
    }

    private static void exactlyOneEvolution() {
        Check.about("Terms: If the chart does not settle, there is exactly one evolution.");
        ForcedChart c = Charts.ring(4);
        c.start(false);
        Check.due("one evolution", c.scan(7, 0), 1);
        Check.due("active", c.active(), 2);
        Check.due("cleared", c.cleared(), 1);
        Check.due("one more", c.scan(3, 0), 1);
        Check.due("active", c.active(), 4);
        Check.due("an idle one", c.scan(3, 0), 0);
        Check.due("active", c.active(), 4);
    }

    private static void forksAndJoins() {
        Check.about("Terms: the succeeding steps of the cleared transitions and those steps in A that are not "
                + "preceding steps of cleared ones");
        ForcedChart c = Charts.withTrue();
        Charts.steps(c, 0, 5, 1 | 16);
        c.transition(1, 2 | 4, Charts.TRUE);
        c.transition(2 | 4, 8, Charts.INPUT_0);
        c.start(false);
        c.scan(0, 0);
        Check.due("fork", c.active(), 2 | 4 | 16);
        Check.due("no join yet", c.scan(0, 0), 0);
        c.scan(1, 0);
        Check.due("join", c.active(), 8 | 16);
    }

    private static void stepsThatStayActive() {
        Check.about("Terms: (A step that is in A and in B stays active.)");
        ForcedChart c = Charts.withTrue();
        Charts.steps(c, 0, 2, 1);
        c.transition(1, 1 | 2, Charts.TRUE);
        c.start(false);
        Check.due("a loop is cleared", c.scan(0, 4), 1);
        Check.due("its step stays", c.time(0), 4);
        Check.due("the other one is new", c.time(1), 0);
        Check.due("again", c.scan(0, 4), 1);
        Check.due("its step stays", c.time(0), 8);
        Check.due("a succeeding step that was active stays", c.time(1), 4);
    }

    private static void stepsThatEndAndSucceedAtOnce() {
        Check.about("Terms: (A step that is in A and in B stays active.)");
        for (int settles = 0; settles < 2; settles++) {
            ForcedChart c = new ForcedChart();
            Charts.steps(c, 0, 3, 1 | 2);
            int rises = c.expression(1, 0, 0);
            c.transition(1, 2, rises);
            c.transition(2, 4, rises);
            c.start(settles == 1);
            Check.due("both are cleared", c.scan(1, 6), 1);
            Check.due("cleared", c.cleared(), 3);
            Check.due("active", c.active(), 2 | 4);
            Check.due("what one ends and the other begins stays", c.time(1), 6);
            Check.due("new", c.time(2), 0);
        }
    }

    private static ForcedChart rivals() {
        ForcedChart c = Charts.withTrue();
        Charts.steps(c, 0, 5, 1 | 2 | 4);
        c.transition(1 | 2, 8, Charts.INPUT_0);
        c.transition(2 | 4, 8, Charts.TRUE);
        c.transition(1, 16, Charts.TRUE);
        c.transition(4, 16, Charts.TRUE);
        return c;
    }

    private static void oneAfterTheOther() {
        Check.about("Terms: one after the other by their numbers, but none that has a preceding step in common with "
                + "one that was cleared before it in this evolution");
        ForcedChart c = rivals();
        c.start(false);
        c.scan(1, 0);
        Check.due("0, then 3: 1 is not cleared and keeps no step from it", c.cleared(), 1 | 8);
        Check.due("active", c.active(), 8 | 16);
        c.stop();
        c.start(false);
        c.scan(0, 0);
        Check.due("0 is not due and keeps no step from 1", c.cleared(), 2 | 4);

        ForcedChart d = Charts.withTrue();
        Charts.steps(d, 0, 3, 1);
        d.transition(1, 2, Charts.TRUE);
        d.transition(2, 1, Charts.TRUE);
        d.transition(1, 4, Charts.TRUE);
        d.start(false);
        for (int round = 0; round < 2; round++) {
            d.scan(0, 0);
            Check.due("the first of two", d.cleared(), 1);
            d.scan(0, 0);
            Check.due("steps are kept in one evolution only", d.cleared(), 2);
        }

        ForcedChart e = Charts.withTrue();
        Charts.steps(e, 0, 3, 1 | 2);
        e.transition(1, 4, Charts.TRUE);
        e.transition(2, 4, Charts.TRUE);
        e.start(false);
        e.scan(0, 0);
        Check.due("a succeeding step in common is none", e.cleared(), 3);
        Check.due("active", e.active(), 4);
    }

    private static void allIfTheChartSettles() {
        Check.about("Terms: if the chart SETTLES, all of them");
        ForcedChart c = rivals();
        c.start(true);
        Check.due("one evolution", c.scan(1, 0), 1);
        Check.due("all are cleared", c.cleared(), 15);
        Check.due("active", c.active(), 8 | 16);
    }

    private static void dueByTheSituationBefore() {
        Check.about("Terms: What is due is judged by A");
        ForcedChart c = new ForcedChart();
        Charts.steps(c, 0, 2, 1);
        Charts.steps(c, 1, 3, 1);
        c.transition(1, 2, c.expression(0, 0, 0));
        c.transition(4, 8, c.expression(3, 1, 0));
        c.transition(4, 16, c.expression(3, 0, 0));
        c.start(false);
        Check.due("step 0 ends", c.scan(1, 0), 1);
        Check.due("but was active", c.active(), 2 | 16);
        Check.due("cleared", c.cleared(), 1 | 4);
    }

    private static void dueByTheTimesBefore() {
        Check.about("Terms: What is due is judged by .. the times before the evolution");
        ForcedChart c = new ForcedChart();
        Charts.steps(c, 0, 2, 1);
        Charts.steps(c, 1, 2, 1);
        int lasts = c.expression(4, 0, 5);
        c.transition(1, 2, lasts);
        c.transition(4, 8, lasts);
        c.start(false);
        Check.due("neither", c.scan(0, 4), 0);
        Check.due("both, by the time of the step that ends", c.scan(0, 1), 1);
        Check.due("active", c.active(), 2 | 8);
    }

    private static void fixedSetRules() {
        Check.about("Terms: the part's steps in B are those of its fixed set .. and no transition of the part is "
                + "CLEARED");
        for (int settles = 0; settles < 2; settles++) {
            ForcedChart c = Charts.withTrue();
            Charts.steps(c, 0, 1, 1);
            Charts.steps(c, 1, 3, 1);
            c.transition(2, 8, Charts.TRUE);
            c.transition(4, 8, Charts.TRUE);
            c.order(0, 1, 4 | 2);
            c.start(settles == 1);
            Check.due("forced", c.scan(0, 5), 1);
            Check.due("active", c.active(), 1 | 2 | 4);
            Check.due("cleared", c.cleared(), 0);
            Check.due("a step of the fixed set that was active stays", c.time(1), 5);
            Check.due("another one is new", c.time(2), 0);
            Check.due("forced again", c.scan(0, 5), 0);
            Check.due("time(1)", c.time(1), 10);
            Check.due("time(2)", c.time(2), 5);
        }
    }

    private static void emptySetRules() {
        Check.about("Terms: a FIXED set of steps of that part (it may be empty)");
        ForcedChart c = Charts.withTrue();
        Charts.steps(c, 0, 2, 1);
        Charts.steps(c, 1, 2, 3);
        c.transition(1, 2, Charts.INPUT_0);
        c.transition(4, 8, Charts.TRUE);
        c.order(0, 1, 0);
        c.start(false);
        Check.due("forced", c.scan(0, 5), 1);
        Check.due("no step of the part is active", c.active(), 1);
        Check.due("cleared", c.cleared(), 0);
        Check.due("time of a step that is forced out", c.time(2), 0);
        Check.due("nothing is left to force", c.scan(0, 5), 0);
        Check.due("the order ends", c.scan(1, 5), 1);
        Check.due("the part stays empty", c.active(), 2);
    }

    private static void freezeRules() {
        Check.about("Terms: or, with FREEZE, those in A; and no transition of the part is CLEARED");
        ForcedChart c = Charts.withTrue();
        Charts.steps(c, 0, 2, 1);
        Charts.steps(c, 1, 3, 1);
        c.transition(1, 2, Charts.INPUT_0);
        c.transition(4, 8, Charts.TRUE);
        c.order(0, 1, FREEZE);
        c.start(false);
        Check.due("frozen", c.scan(0, 3), 0);
        Check.due("active", c.active(), 1 | 4);
        Check.due("cleared", c.cleared(), 0);
        Check.due("its time goes on", c.time(2), 3);
        Check.due("freed", c.scan(1, 3), 1);
        Check.due("active", c.active(), 2 | 8);
        Check.due("cleared", c.cleared(), 3);
    }

    private static void orderWithTheLeastNumberRules() {
        Check.about("Terms: the one with the least number rules");
        ForcedChart c = Charts.withTrue();
        Charts.steps(c, 0, 3, 7);
        Charts.steps(c, 1, 4, 1);
        c.transition(1, 2, Charts.INPUT_0);
        c.transition(2, 4, c.expression(0, 1, 0));
        c.transition(4, 4, Charts.TRUE);
        c.order(0, 1, FREEZE);
        c.order(1, 1, 16 | 32);
        c.order(2, 1, 64);
        c.start(false);
        c.scan(0, 0);
        Check.due("order 0 of three", c.active(), 7 | 8);
        c.scan(1, 0);
        Check.due("order 1 of two", c.active(), 6 | 16 | 32);
        c.scan(2, 0);
        Check.due("order 2 is left", c.active(), 4 | 64);

        ForcedChart d = new ForcedChart();
        Charts.steps(d, 0, 2, 3);
        Charts.steps(d, 1, 2, 0);
        d.order(1, 1, 8);
        d.order(0, 1, 4);
        d.start(false);
        d.scan(0, 0);
        Check.due("the order's number counts, not its step's", d.active(), 1 | 2 | 8);
    }

    private static void ordersByTheStepsInB() {
        Check.about("Terms: If an order for the part has its step in B (as far as B is made by then)");
        ForcedChart c = new ForcedChart();
        Charts.steps(c, 0, 2, 1);
        Charts.steps(c, 1, 2, 1);
        Charts.steps(c, 2, 2, 1);
        c.transition(1, 2, c.expression(0, 0, 0));
        c.transition(2, 1, c.expression(0, 1, 0));
        c.order(1, 1, 8);
        c.order(3, 2, 32);
        c.order(0, 2, 0);
        c.start(false);
        Check.due("a step that becomes active orders at once, from part to part", c.scan(1, 0), 1);
        Check.due("active", c.active(), 2 | 8 | 32);
        Check.due("cleared", c.cleared(), 1);
        c.scan(2, 0);
        Check.due("a step that ends orders no more; step 3 does still", c.active(), 1 | 8 | 32);
    }

    private static void partsByTheirNumbers() {
        Check.about("Terms: for part 0 first, then for 1, then for 2");
        ForcedChart c = new ForcedChart();
        c.step(2, true);
        c.step(1, false);
        c.step(0, true);
        c.step(2, false);
        c.order(1, 2, 8);
        c.order(2, 1, 2);
        c.start(false);
        Check.due("one evolution", c.scan(0, 0), 1);
        Check.due("whatever the numbers of steps and orders are", c.active(), 2 | 4 | 8);
    }

    private static void orderOfAnotherPart() {
        Check.about("Terms: If an order for the part has its step in B");
        ForcedChart c = Charts.withTrue();
        Charts.steps(c, 0, 1, 1);
        Charts.steps(c, 1, 2, 1);
        Charts.steps(c, 2, 2, 1);
        c.transition(2, 4, Charts.TRUE);
        c.transition(8, 16, Charts.TRUE);
        c.order(0, 2, FREEZE);
        c.start(false);
        c.scan(0, 0);
        Check.due("part 1 goes on, part 2 is frozen", c.active(), 1 | 4 | 8);
        Check.due("cleared", c.cleared(), 1);
    }

    private static void idleOrNot() {
        Check.about("Terms: An evolution is IDLE if it clears no transition and B is A.");
        ForcedChart c = Charts.withTrue();
        Charts.steps(c, 0, 1, 1);
        Charts.steps(c, 1, 2, 1);
        c.transition(1, 1, Charts.INPUT_0);
        c.order(0, 1, 4);
        c.start(false);
        Check.due("B is not A, nothing cleared", c.scan(0, 1), 1);
        Check.due("evolutions", c.evolutions(), 1);
        Check.due("cleared", c.cleared(), 0);
        Check.due("neither", c.scan(0, 1), 0);
        Check.due("evolutions", c.evolutions(), 0);
        Check.due("cleared, B is A", c.scan(1, 1), 1);
        Check.due("evolutions", c.evolutions(), 1);
        Check.due("cleared", c.cleared(), 1);
        Check.due("time", c.time(0), 3);
    }

    private static void noneSinceStart() {
        Check.about("Promise 16: 0 if there was none since start(); Promise 17: 0 if there was none");
        ForcedChart c = Charts.ring(3);
        for (int run = 0; run < 2; run++) {
            c.start(true);
            Check.due("evolutions before a scan", c.evolutions(), 0);
            Check.due("cleared before a scan", c.cleared(), 0);
            Check.due("unstable", c.scan(7, 0), UNSTABLE);
            Check.due("evolutions after an unstable one", c.evolutions(), 0);
            Check.due("cleared after an unstable one", c.cleared(), 0);
            Check.refused("scan", c.scan(1, -1));
            Check.due("evolutions after a refused one", c.evolutions(), 0);
            Check.due("cleared after a refused one", c.cleared(), 0);
            c.scan(3, 0);
            Check.due("evolutions", c.evolutions(), 2);
            c.stop();
            Check.due("evolutions after stop", c.evolutions(), 0);
            Check.due("cleared after stop", c.cleared(), 0);
        }
    }

    private static void latestScanThatCounts() {
        Check.about("Promise 16: What the latest scan answered that was neither refused nor unstable; Promise 17");
        ForcedChart c = Charts.ring(3);
        c.start(true);
        c.scan(3, 0);
        Check.due("evolutions", c.evolutions(), 2);
        Check.due("cleared", c.cleared(), 3);
        Check.due("unstable", c.scan(7, 0), UNSTABLE);
        Check.due("evolutions after an unstable one", c.evolutions(), 2);
        Check.due("cleared after an unstable one", c.cleared(), 3);
        Check.refused("scan", c.scan(4, 1000001));
        Check.due("evolutions after a refused one", c.evolutions(), 2);
        Check.due("cleared after a refused one", c.cleared(), 3);
        c.scan(4, 0);
        Check.due("evolutions of the next", c.evolutions(), 1);
        Check.due("cleared in the next alone", c.cleared(), 4);
        c.scan(0, 0);
        Check.due("evolutions of an idle one", c.evolutions(), 0);
        Check.due("cleared of an idle one", c.cleared(), 0);
    }

    private static void clearedAtLeastOnce() {
        Check.about("Promise 17: that were cleared at least once in the scan");
        ForcedChart c = Charts.withTrue();
        Charts.steps(c, 0, 3, 1);
        Charts.steps(c, 1, 2, 1);
        int rises = c.expression(1, 0, 0);
        c.transition(1, 2, rises);
        c.transition(2, 4, Charts.TRUE);
        c.transition(8, 8, c.expression(3, 1, 0));
        c.transition(8, 8, rises);
        c.transition(8, 8, c.expression(7, 4, 5));
        c.start(true);
        Check.due("two evolutions", c.scan(1, 0), 2);
        Check.due("first, second and both", c.cleared(), 31);
    }
}
