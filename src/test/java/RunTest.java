/** Promises 8 to 13: start and stop, what a scan takes, and what is told of steps and transitions. */
public final class RunTest {
    private static final int LEAST = Integer.MIN_VALUE;
    private static final int GREATEST = Integer.MAX_VALUE;
    private static final int LONGEST = 1000000;
    private static final int FREEZE = ForcedChart.FREEZE;

    public static void main(String[] args) {
        startWithoutInitialStep();
        startWhileItRuns();
        startFromInitialSteps();
        startSettlesOrNot();
        startLeavesNothingOfEarlierRuns();
        startLeavesNothingOfInputsAndSteps();
        startLeavesNothingOfTimes();
        stopEndsAllThatRuns();
        stopEndsLeadAndPeriod();
        stopOfWhatDoesNotRun();

        scanOfWhatDoesNotRun();
        scanWithWrongTime();
        scanCountsInputs0To7();
        inputsOnAndOff();
        risingAndFalling();
        beforeTheFirstScanAllInputsAreOff();
        refusedScansAreNoScansBefore();

        stepsThatAreActive();
        stepsThatLastAtLeast();
        notBothEither();
        deepExpressions();

        timeOfSteps();
        timeOfStepsThatAreNotThere();
        timeForAllCallsOfAnObject();
        enabledTransitions();
        enabledWhateverOrdersSay();
        Check.end();
    }

    private static void startWithoutInitialStep() {
        Check.about("Promise 8: false (refused) if it .. has no initial step");
        ForcedChart c = new ForcedChart();
        Check.due("start without a step", c.start(true), false);
        Check.due("start without a step", c.start(false), false);
        Charts.steps(c, 0, 7, 0);
        Check.due("start without initial step", c.start(true), false);
        Check.due("start without initial step", c.start(false), false);
        Check.due("it is not active", c.active(), 0);
        Check.refused("it does not run", c.scan(0, 0));
        Check.due("it is built on", c.step(2, true), 7);
        Check.due("start with one initial step", c.start(false), true);
        Check.due("active", c.active(), 128);
    }

    private static void startWhileItRuns() {
        Check.about("Promise 8: false (refused) if it runs");
        ForcedChart c = Charts.ring(3);
        Check.due("start", c.start(false), true);
        Check.due("start again", c.start(true), false);
        Check.due("it settles no more than before", c.scan(3, 4), 1);
        c.scan(0, 4);
        Check.due("start again", c.start(true), false);
        Check.due("start again", c.start(false), false);
        Check.due("active", c.active(), 2);
        Check.due("time", c.time(1), 4);
        c.stop();
        Check.due("start after stop", c.start(true), true);
        Check.due("start again", c.start(false), false);
        Check.due("it settles", c.scan(3, 4), 2);
    }

    private static void startFromInitialSteps() {
        Check.about("Promise 8: the situation is the set of initial steps, their times are 0");
        ForcedChart c = new ForcedChart();
        Charts.steps(c, 0, 3, 5);
        Charts.steps(c, 1, 3, 2);
        Charts.steps(c, 2, 2, 2);
        c.order(0, 1, 8);
        c.order(0, 2, 0);
        for (int run = 0; run < 2; run++) {
            Check.due("start", c.start(run == 0), true);
            Check.due("orders have no part in it", c.active(), 1 | 4 | 16 | 128);
            for (int step = 0; step < 8; step++) {
                Check.due("time(" + step + ")", c.time(step), 0);
            }
            c.scan(0, 9);
            c.stop();
        }
        ForcedChart d = new ForcedChart();
        Charts.steps(d, 1, 8, 255);
        d.start(false);
        Check.due("all eight", d.active(), 255);
    }

    private static void startSettlesOrNot() {
        Check.about("Promise 8: Lets the chart run, settling or not");
        ForcedChart c = Charts.ring(4);
        for (int run = 0; run < 4; run++) {
            c.start(run % 2 == 0);
            Check.due("evolutions, run " + run, c.scan(3, 0), run % 2 == 0 ? 2 : 1);
            c.stop();
        }
    }

    private static void startLeavesNothingOfEarlierRuns() {
        Check.about("Promise 8: no action is stored, and nothing is left of earlier runs");
        ForcedChart c = Charts.ring(2);
        c.action(1, 2, 0, 0);
        c.action(1, 7, 1, 5);
        c.action(1, 9, 2, 5);
        for (int run = 0; run < 3; run++) {
            Check.due("start", c.start(run == 1), true);
            String when = "run " + run + ": ";
            Check.due(when + "active", c.active(), 1);
            Check.due(when + "outputs", c.outputs(), 0);
            Check.due(when + "evolutions", c.evolutions(), 0);
            Check.due(when + "cleared", c.cleared(), 0);
            Check.due(when + "lead", c.lead(), 0);
            Check.due(when + "period", c.period(), 0);
            for (int action = 0; action < 3; action++) {
                Check.due(when + "stored(" + action + ")", c.stored(action), false);
            }
            c.scan(0, 9);
            Check.due(when + "nothing is stored", c.outputs(), 0);
            c.scan(1, 9);
            Check.due(when + "ages begin at 0", c.outputs(), 1 | 4);
            c.scan(0, 9);
            Check.due(when + "and grow", c.outputs(), 1 | 2);
            c.scan(3, 9);
            c.stop();
        }
        c.step(0, true);
        c.start(false);
        Check.due("what was built since counts", c.active(), 1 | 4);
    }

    private static void startLeavesNothingOfInputsAndSteps() {
        Check.about("Promise 8: nothing is left of earlier runs");
        ForcedChart c = new ForcedChart();
        Charts.steps(c, 0, 2, 1);
        c.transition(1, 2, c.expression(1, 2, 0));
        c.transition(1, 2, c.expression(2, 3, 0));
        c.action(0, 5, 0, 0);
        c.action(0, 6, 1, 0);
        c.start(false);
        c.scan(8, 0);
        Check.due("step 0 begins", c.outputs(), 1);
        Check.due("input 2 rises", c.scan(4 | 8, 0), 1);
        Check.due("step 0 ends", c.outputs(), 2);
        c.stop();
        c.start(false);
        Check.due("input 3 does not fall", c.scan(0, 0), 0);
        Check.due("step 0 begins again", c.outputs(), 1);
        c.stop();
        c.start(false);
        Check.due("input 2 rises again", c.scan(4, 0), 1);
        Check.due("step 0 was not active at the end of a scan before", c.outputs(), 0);
    }

    private static void startLeavesNothingOfTimes() {
        Check.about("Promise 8: their times are 0, .. and nothing is left of earlier runs");
        ForcedChart c = Charts.ring(3);
        c.start(false);
        c.scan(1, 5);
        c.scan(0, 5);
        Check.due("a time of the first run", c.time(1), 5);
        c.stop();
        c.start(true);
        Check.due("time(0)", c.time(0), 0);
        Check.due("time(1)", c.time(1), 0);
        Check.due("step 1 becomes active", c.scan(1, 7), 1);
        Check.due("with a time of 0", c.time(1), 0);
        c.scan(0, 2);
        Check.due("and has the time of this run", c.time(1), 2);
    }

    private static void stopEndsAllThatRuns() {
        Check.about("Promise 9: no step is active, no variable on, no action stored; evolutions(), cleared() .. are 0");
        ForcedChart c = Charts.ring(2);
        c.action(1, 2, 0, 0);
        c.start(false);
        c.scan(0, 3);
        c.scan(1, 3);
        Check.due("before stop: active", c.active(), 2);
        Check.due("before stop: enabled", c.enabled(), 2);
        Check.due("before stop: outputs", c.outputs(), 1);
        Check.due("before stop: stored", c.stored(0), true);
        Check.due("before stop: evolutions", c.evolutions(), 1);
        Check.due("before stop: cleared", c.cleared(), 1);
        c.stop();
        Check.due("active", c.active(), 0);
        Check.due("enabled", c.enabled(), 0);
        Check.due("outputs", c.outputs(), 0);
        Check.due("stored", c.stored(0), false);
        Check.due("evolutions", c.evolutions(), 0);
        Check.due("cleared", c.cleared(), 0);
        c.start(false);
        c.scan(0, 3);
        Check.due("before stop: time", c.time(0), 3);
        c.stop();
        Check.due("time", c.time(0), 0);
        Check.refused("scan", c.scan(1, 1));
        Check.due("step", c.step(0, false), 2);
    }

    private static void stopEndsLeadAndPeriod() {
        Check.about("Promise 9: lead() and period() are 0");
        ForcedChart c = Charts.ring(3);
        c.start(true);
        Check.due("unstable", c.scan(7, 1), ForcedChart.UNSTABLE);
        Check.due("before stop: lead", c.lead(), 1);
        Check.due("before stop: period", c.period(), 3);
        c.stop();
        Check.due("lead", c.lead(), 0);
        Check.due("period", c.period(), 0);
        c.start(true);
        Check.due("lead of the next run", c.lead(), 0);
        Check.due("period of the next run", c.period(), 0);
    }

    private static void stopOfWhatDoesNotRun() {
        Check.about("Promise 9: (Also if it does not run.)");
        ForcedChart c = new ForcedChart();
        c.stop();
        Check.due("step after stop", c.step(0, true), 0);
        c.stop();
        Check.due("active", c.active(), 0);
        Check.refused("scan", c.scan(0, 0));
        Check.due("start after stop", c.start(false), true);
        c.scan(0, 5);
        c.stop();
        c.stop();
        Check.due("active after two stops", c.active(), 0);
        Check.due("time after two stops", c.time(0), 0);
        Check.due("start after two stops", c.start(false), true);
        Check.due("active", c.active(), 1);
    }

    private static void scanOfWhatDoesNotRun() {
        Check.about("Promise 10: REFUSED if the chart does not run");
        ForcedChart c = Charts.ring(2);
        Check.refused("before start", c.scan(1, 1));
        c.start(false);
        Check.due("after start", c.scan(1, 1), 1);
        c.stop();
        Check.refused("after stop", c.scan(1, 1));
        Check.due("active", c.active(), 0);
        Check.due("time", c.time(0), 0);
        Check.due("evolutions", c.evolutions(), 0);
    }

    private static void scanWithWrongTime() {
        Check.about("Promise 10: REFUSED if .. dt is not 0 .. 1000000");
        for (int settles = 0; settles < 2; settles++) {
            ForcedChart c = Charts.ring(2);
            c.start(settles == 1);
            c.scan(0, 4);
            for (int dt : new int[] {-1, LONGEST + 1, LEAST, GREATEST}) {
                Check.refused("dt " + dt, c.scan(1, dt));
                Check.due("active", c.active(), 1);
                Check.due("time", c.time(0), 4);
            }
            Check.due("dt 1000000", c.scan(0, LONGEST), 0);
            Check.due("time", c.time(0), LONGEST + 4);
            Check.due("dt 0", c.scan(0, 0), 0);
            Check.due("time", c.time(0), LONGEST + 4);
            Check.due("dt 0 and an input", c.scan(1, 0), 1);
            Check.refused("dt -1", c.scan(2, -1));
            Check.due("evolutions", c.evolutions(), 1);
            Check.due("cleared", c.cleared(), 1);
        }
    }

    private static void scanCountsInputs0To7() {
        Check.about("Promise 10: (a set; only the members 0 .. 7 count)");
        for (int input = 0; input < 8; input++) {
            ForcedChart c = new ForcedChart();
            Charts.steps(c, 0, 3, 1);
            c.transition(1, 2, c.expression(0, input, 0));
            c.transition(2, 4, c.expression(2, input, 0));
            c.start(false);
            String its = "input " + input + ": ";
            Check.due(its + "members 8 .. 31", c.scan(~255, 0), 0);
            Check.due(its + "all others", c.scan(~(1 << input), 0), 0);
            Check.due(its + "it alone", c.scan(1 << input, 0), 1);
            Check.due(its + "it and members 8 .. 31", c.scan(~255 | 1 << input, 0), 0);
            Check.due(its + "members 8 .. 31, it falls", c.scan(~255, 0), 1);
        }
    }

    private static void inputsOnAndOff() {
        Check.about("Terms: 0: input a is on");
        ForcedChart c = Charts.ring(2);
        c.start(false);
        Check.due("off", c.scan(0, 0), 0);
        Check.due("another is on", c.scan(2, 0), 0);
        Check.due("on", c.scan(1, 0), 1);
        Check.due("it is the next one's turn", c.scan(1, 0), 0);
        Check.due("on", c.scan(3, 0), 1);
        Check.due("still on", c.scan(3, 0), 1);
    }

    private static void risingAndFalling() {
        Check.about("Terms: An input RISES if it is on and was off in the scan before, and FALLS if it is off and was "
                + "on");
        ForcedChart c = new ForcedChart();
        Charts.steps(c, 0, 2, 1);
        c.transition(1, 2, c.expression(1, 3, 0));
        c.transition(2, 1, c.expression(2, 3, 0));
        c.start(false);
        Check.due("off stays off", c.scan(0, 0), 0);
        Check.due("another rises", c.scan(4, 0), 0);
        Check.due("it rises, another falls", c.scan(8, 0), 1);
        Check.due("active", c.active(), 2);
        Check.due("on stays on", c.scan(8, 0), 0);
        Check.due("falls", c.scan(0, 0), 1);
        Check.due("active", c.active(), 1);
        Check.due("off stays off", c.scan(0, 0), 0);
        Check.due("rises again", c.scan(8, 0), 1);
    }

    private static void beforeTheFirstScanAllInputsAreOff() {
        Check.about("Terms: (before the first scan all are off; unstable scans don't count)");
        for (int settles = 0; settles < 2; settles++) {
            ForcedChart c = new ForcedChart();
            Charts.steps(c, 0, 8, 255);
            for (int input = 0; input < 4; input++) {
                c.transition(1 << input, 1 << input, c.expression(1, input, 0));
                c.transition(1 << input, 1 << input, c.expression(2, input, 0));
            }
            c.start(settles == 1);
            c.scan(255, 0);
            Check.due("all rise in the first scan", c.cleared(), 1 | 4 | 16 | 64);
            c.stop();
            c.start(settles == 1);
            c.scan(0, 0);
            Check.due("none falls in the first scan", c.cleared(), 0);
        }
    }

    private static void refusedScansAreNoScansBefore() {
        Check.about("Terms: was off in the scan before; A call that is refused changes nothing.");
        ForcedChart c = new ForcedChart();
        Charts.steps(c, 0, 2, 1);
        c.transition(1, 2, c.expression(1, 0, 0));
        c.transition(2, 1, c.expression(2, 0, 0));
        c.scan(1, 0);
        c.start(false);
        c.scan(1, -1);
        Check.due("it still rises", c.scan(1, 0), 1);
        c.scan(0, LONGEST + 1);
        Check.due("it still falls", c.scan(0, 0), 1);
    }

    private static void stepsThatAreActive() {
        Check.about("Terms: 3: step a is active");
        ForcedChart c = new ForcedChart();
        Charts.steps(c, 0, 2, 1);
        Charts.steps(c, 1, 2, 1);
        c.transition(1, 2, c.expression(0, 0, 0));
        c.transition(4, 8, c.expression(3, 1, 0));
        c.transition(8, 4, c.expression(3, 0, 0));
        c.start(false);
        Check.due("step 1 is not active", c.scan(0, 50), 0);
        Check.due("step 1 becomes active", c.scan(1, 50), 1);
        Check.due("active", c.active(), 2 | 4);
        Check.due("step 1 is active", c.scan(0, 0), 1);
        Check.due("active", c.active(), 2 | 8);
        Check.due("step 0 is not active", c.scan(0, 0), 0);
    }

    private static void stepsThatLastAtLeast() {
        Check.about("Terms: 4: step a is active and its time is at least b");
        for (int b : new int[] {0, 1, 10, LONGEST}) {
            ForcedChart c = new ForcedChart();
            Charts.steps(c, 0, 2, 1);
            Charts.steps(c, 1, 1, 0);
            c.transition(1, 2, c.expression(4, 0, b));
            c.transition(2, 1, c.expression(4, 2, b));
            c.start(false);
            if (b > 0) {
                Check.due("a time of b - 1, b = " + b, c.scan(0, b - 1), 0);
                Check.due("the same", c.scan(0, 0), 0);
                Check.due("a time of b, b = " + b, c.scan(0, 1), 1);
            } else {
                Check.due("a time of 0", c.scan(0, 0), 1);
            }
            Check.due("a step that is not active, b = " + b, c.scan(0, LONGEST), 0);
            c.stop();
            c.start(false);
            Check.due("a time above b, b = " + b, c.scan(0, LONGEST), 1);
        }
        ForcedChart d = new ForcedChart();
        Charts.steps(d, 0, 2, 1);
        d.transition(1, 2, d.expression(4, 0, LONGEST));
        d.start(false);
        d.scan(0, LONGEST - 1);
        Check.due("a time far above b", d.scan(0, LONGEST), 1);
    }

    private static void notBothEither() {
        Check.about("Terms: 5: not expression a   6: expressions a and b both   7: expression a or b, or both");
        for (int inputs = 0; inputs < 4; inputs++) {
            boolean a = (inputs & 1) != 0;
            boolean b = (inputs & 2) != 0;
            String given = " with inputs " + inputs;
            Check.due("not" + given, isTrue(5, inputs), !a);
            Check.due("both" + given, isTrue(6, inputs), a && b);
            Check.due("either" + given, isTrue(7, inputs), a || b);
        }
    }

    private static boolean isTrue(int kind, int inputs) {
        ForcedChart c = new ForcedChart();
        Charts.steps(c, 0, 2, 1);
        c.expression(0, 0, 0);
        c.expression(0, 1, 0);
        c.transition(1, 2, c.expression(kind, 0, 1));
        c.start(false);
        return c.scan(inputs, 0) == 1;
    }

    private static void deepExpressions() {
        Check.about("Terms: No depth is more than 4.");
        ForcedChart c = new ForcedChart();
        Charts.steps(c, 0, 2, 1);
        int leaf = c.expression(0, 0, 0);
        int other = c.expression(0, 1, 0);
        int one = c.expression(5, leaf, 0);
        int two = c.expression(6, one, other);
        int three = c.expression(7, leaf, two);
        int four = c.expression(5, three, 0);
        c.transition(1, 2, four);
        c.transition(2, 1, three);
        for (int inputs = 0; inputs < 4; inputs++) {
            c.start(false);
            boolean isTrue = inputs == 0;
            Check.due("depth 4 with inputs " + inputs, c.scan(inputs, 0), isTrue ? 1 : 0);
            c.scan(0, 0);
            Check.due("depth 3 with inputs " + inputs, c.scan(inputs, 0), isTrue ? 0 : 1);
            c.stop();
        }
    }

    private static void timeOfSteps() {
        Check.about("Terms: A step that becomes active has the TIME 0; while it stays active, its time grows by what "
                + "passes in scans. The time of a step that is not active is 0.");
        ForcedChart c = Charts.ring(2);
        c.start(false);
        c.scan(0, 7);
        Check.due("time(0)", c.time(0), 7);
        Check.due("time of a step that is not active", c.time(1), 0);
        c.scan(0, 6);
        Check.due("time(0)", c.time(0), 13);
        c.scan(0, 0);
        Check.due("time(0)", c.time(0), 13);
        c.scan(1, 5);
        Check.due("time of a step that ended", c.time(0), 0);
        Check.due("time of a step that became active", c.time(1), 0);
        c.scan(0, 5);
        Check.due("time(1)", c.time(1), 5);
        Check.due("time(0)", c.time(0), 0);
        c.scan(2, 5);
        c.scan(0, 2);
        Check.due("time begins anew", c.time(0), 2);
        Check.due("time(1)", c.time(1), 0);
    }

    private static void timeOfStepsThatAreNotThere() {
        Check.about("Promise 12: 0 if there is no such step");
        ForcedChart c = Charts.ring(2);
        c.start(false);
        c.scan(0, 5);
        Check.due("time(0)", c.time(0), 5);
        for (int step : new int[] {-1, 2, 7, 8, 32, -32, LEAST, GREATEST}) {
            Check.due("time(" + step + ")", c.time(step), 0);
        }
        ForcedChart d = new ForcedChart();
        Charts.steps(d, 2, 8, 255);
        d.start(false);
        d.scan(0, 5);
        Check.due("time(7)", d.time(7), 5);
        Check.due("time(8)", d.time(8), 0);
        Check.due("time(-1)", d.time(-1), 0);
    }

    private static void timeForAllCallsOfAnObject() {
        Check.about("What it is: An object is used for at most 512 calls");
        ForcedChart c = new ForcedChart();
        c.step(0, true);
        c.action(0, 9, 0, LONGEST);
        c.action(0, 7, 1, LONGEST);
        c.start(true);
        for (int i = 0; i < 506; i++) {
            c.scan(0, LONGEST);
        }
        Check.due("call 511: time", c.time(0), 506 * LONGEST);
        Check.due("call 512: outputs", c.outputs(), 2);
    }

    private static void enabledTransitions() {
        Check.about("Terms: A transition is ENABLED when all its preceding steps are active");
        ForcedChart c = Charts.withTrue();
        Charts.steps(c, 0, 4, 1);
        c.transition(1, 2 | 4, Charts.INPUT_0);
        c.transition(2 | 4, 8, Charts.INPUT_7);
        c.transition(4 | 8, 1, Charts.TRUE);
        c.transition(1, 1, Charts.INPUT_7);
        Check.due("before start", c.enabled(), 0);
        c.start(false);
        Check.due("whatever its expression is", c.enabled(), 1 | 8);
        c.scan(1, 0);
        Check.due("active", c.active(), 2 | 4);
        Check.due("all preceding steps", c.enabled(), 2);
        c.scan(128, 0);
        Check.due("active", c.active(), 8);
        Check.due("not all", c.enabled(), 0);
        Check.due("so it is not due", c.scan(0, 0), 0);
        c.stop();
        Check.due("after stop", c.enabled(), 0);
    }

    private static void enabledWhateverOrdersSay() {
        Check.about("Promise 13: (Orders have no part in it.)");
        ForcedChart c = Charts.withTrue();
        Charts.steps(c, 0, 1, 1);
        Charts.steps(c, 1, 1, 1);
        Charts.steps(c, 2, 1, 1);
        c.transition(2, 2, Charts.TRUE);
        c.transition(4, 4, Charts.TRUE);
        c.order(0, 1, FREEZE);
        c.order(0, 2, 4);
        c.start(false);
        Check.due("enabled", c.enabled(), 3);
        c.scan(0, 0);
        Check.due("enabled, though forced", c.enabled(), 3);
        Check.due("cleared", c.cleared(), 0);
    }
}
