import java.util.function.ToIntFunction;

/** Promises 1 to 6: what builds a chart and what is refused, on both sides of each limit. */
public final class BuildTest {
    private static final int LEAST = Integer.MIN_VALUE;
    private static final int GREATEST = Integer.MAX_VALUE;
    private static final int LONGEST = 1000000;

    public static void main(String[] args) {
        newObjectIsEmpty();
        newObjectDoesNotRun();
        buildingWhileItRuns();

        partsOfSteps();
        atMostEightSteps();

        kindsOfExpressions();
        inputsOfExpressions();
        stepsOfExpressions();
        timesOfExpressions();
        expressionsOfExpressions();
        whereBHasNoMeaning();
        depthOfNot();
        depthOfBothAndEither();
        atMost24Expressions();

        setsOfTransitionsAreNotEmpty();
        setsOfTransitionsAreThere();
        transitionsAreInOnePart();
        expressionsOfTransitions();
        atMost12Transitions();

        stepsOfOrders();
        partsOfOrders();
        fixedSets();
        atMost4Orders();

        stepsOfActions();
        qualifiersOfActions();
        variablesOfActions();
        durationsOfActions();
        atMost12Actions();
        Check.end();
    }

    private static void newObjectIsEmpty() {
        Check.about("Promise 1: An empty chart");
        ForcedChart c = new ForcedChart();
        Check.due("unreached", c.unreached(), 0);
        Check.due("active", c.active(), 0);
        Check.due("enabled", c.enabled(), 0);
        Check.due("outputs", c.outputs(), 0);
        Check.due("evolutions", c.evolutions(), 0);
        Check.due("cleared", c.cleared(), 0);
        Check.due("lead", c.lead(), 0);
        Check.due("period", c.period(), 0);
        Check.due("time(0)", c.time(0), 0);
        Check.due("stored(0)", c.stored(0), false);
        Check.refused("expression of a step", c.expression(3, 0, 0));
        Check.refused("expression of an expression", c.expression(5, 0, 0));
        Check.refused("transition", c.transition(1, 1, 0));
        Check.refused("order", c.order(0, 1, 0));
        Check.refused("action", c.action(0, 0, 0, 0));
        Check.due("first step", c.step(0, false), 0);
        Check.due("first expression", c.expression(0, 0, 0), 0);
        Check.due("first transition", c.transition(1, 1, 0), 0);
        Check.due("first order", c.order(0, 1, 0), 0);
        Check.due("first action", c.action(0, 0, 0, 0), 0);
        Check.due("first step of another object", new ForcedChart().step(2, true), 0);
    }

    private static void newObjectDoesNotRun() {
        Check.about("Promise 1: that does not run");
        ForcedChart c = new ForcedChart();
        Check.refused("scan", c.scan(255, 1));
        Check.due("step", c.step(0, true), 0);
        Check.refused("scan", c.scan(255, 1));
        Check.due("start", c.start(false), true);
    }

    private static void buildingWhileItRuns() {
        whileItRuns("Promise 2: REFUSED if the chart runs", c -> c.step(0, true), 2);
        whileItRuns("Promise 3: REFUSED if the chart runs", c -> c.expression(0, 0, 0), 1);
        whileItRuns("Promise 4: REFUSED if the chart runs", c -> c.transition(1, 1, 0), 1);
        whileItRuns("Promise 5: REFUSED if the chart runs", c -> c.order(0, 1, 0), 1);
        whileItRuns("Promise 6: REFUSED if the chart runs", c -> c.action(0, 0, 0, 0), 1);
    }

    /** A call that is good whenever the chart does not run; first is the number that it answers at first. */
    private static void whileItRuns(String sentence, ToIntFunction<ForcedChart> call, int first) {
        Check.about(sentence);
        ForcedChart c = new ForcedChart();
        c.step(0, true);
        c.step(1, false);
        c.expression(0, 0, 0);
        c.transition(1, 1, 0);
        c.order(0, 1, 0);
        c.action(0, 0, 0, 0);
        Check.due("before start", call.applyAsInt(c), first);
        for (int run = 1; run <= 2; run++) {
            c.start(run == 1);
            Check.refused("after start", call.applyAsInt(c));
            c.scan(0, 1);
            Check.refused("after a scan", call.applyAsInt(c));
            c.start(true);
            Check.refused("after a start that is refused", call.applyAsInt(c));
            c.stop();
            Check.due("after stop", call.applyAsInt(c), first + run);
        }
    }

    private static void partsOfSteps() {
        Check.about("Promise 2: part is not 0 .. 2");
        ForcedChart c = new ForcedChart();
        for (int part : new int[] {-1, 3, -3, 4, 256, LEAST, GREATEST}) {
            Check.refused("part " + part, c.step(part, true));
        }
        Check.due("a refused step is not initial", c.start(false), false);
        Check.due("part 0", c.step(0, true), 0);
        Check.due("part 1", c.step(1, false), 1);
        Check.refused("part 3", c.step(3, false));
        Check.due("part 2", c.step(2, true), 2);
        Check.due("0 is less than 1", c.order(0, 1, 2), 0);
        Check.due("1 is less than 2", c.order(1, 2, 4), 1);
        c.start(false);
        Check.due("the initial ones", c.active(), 1 | 4);
    }

    private static void atMostEightSteps() {
        Check.about("Promise 2: 8 steps are there; Terms: STEPS 0, 1, .. (at most 8)");
        for (int part = 0; part < 3; part++) {
            ForcedChart c = new ForcedChart();
            for (int i = 0; i < 7; i++) {
                Check.due("step " + i, c.step(part, false), i);
            }
            Check.due("eighth step", c.step(part, true), 7);
            for (int other = 0; other < 3; other++) {
                Check.refused("ninth step", c.step(other, true));
                Check.refused("ninth step", c.step(other, false));
            }
            Check.due("unreached", c.unreached(), 127);
            c.start(false);
            Check.due("active", c.active(), 128);
            c.scan(0, 3);
            Check.due("time of the eighth", c.time(7), 3);
            Check.due("time of a ninth", c.time(8), 0);
            c.stop();
            Check.refused("ninth step after a run", c.step(0, false));
        }
    }

    private static void kindsOfExpressions() {
        Check.about("Promise 3: kind is not 0 .. 7");
        ForcedChart c = new ForcedChart();
        c.step(0, true);
        for (int kind = 0; kind <= 7; kind++) {
            Check.due("kind " + kind, c.expression(kind, 0, 0), kind);
        }
        for (int kind : new int[] {-1, 8, 9, -7, 256, LEAST, GREATEST}) {
            Check.refused("kind " + kind, c.expression(kind, 0, 0));
        }
        Check.due("the next number", c.expression(0, 0, 0), 8);
    }

    private static void inputsOfExpressions() {
        Check.about("Promise 3: kinds 0, 1, 2: a is 0 .. 7");
        ForcedChart c = new ForcedChart();
        int number = 0;
        for (int kind = 0; kind <= 2; kind++) {
            for (int a : new int[] {-1, 8, 32, LEAST, GREATEST}) {
                Check.refused("input " + a + ", kind " + kind, c.expression(kind, a, 0));
            }
            for (int a = 0; a <= 7; a += 7) {
                Check.due("input " + a + ", kind " + kind, c.expression(kind, a, 0), number++);
            }
        }
    }

    private static void stepsOfExpressions() {
        Check.about("Promise 3: 3: a is a step that is there; 4: that");
        ForcedChart c = new ForcedChart();
        int number = 0;
        for (int count = 1; count <= 8; count++) {
            c.step(count % 3, false);
            for (int kind = 3; kind <= 4; kind++) {
                Check.refused("step -1, kind " + kind, c.expression(kind, -1, 0));
                Check.refused("step " + count + ", kind " + kind, c.expression(kind, count, 0));
                Check.due("step " + (count - 1) + ", kind " + kind, c.expression(kind, count - 1, 0), number++);
            }
        }
        Check.refused("the least step", c.expression(3, LEAST, 0));
        Check.refused("the greatest step", c.expression(4, GREATEST, 0));
    }

    private static void timesOfExpressions() {
        Check.about("Promise 3: and b is 0 .. 1000000");
        ForcedChart c = new ForcedChart();
        c.step(0, false);
        for (int b : new int[] {-1, LONGEST + 1, LEAST, GREATEST}) {
            Check.refused("time " + b, c.expression(4, 0, b));
        }
        Check.due("time 0", c.expression(4, 0, 0), 0);
        Check.due("time 1000000", c.expression(4, 0, LONGEST), 1);
    }

    private static void expressionsOfExpressions() {
        Check.about("Promise 3: 5: a is an expression that is there; 6 and 7: a and b are (they may be the same)");
        ForcedChart c = new ForcedChart();
        for (int kind = 5; kind <= 7; kind++) {
            Check.refused("no expression, kind " + kind, c.expression(kind, 0, 0));
        }
        c.expression(0, 0, 0);
        c.expression(0, 1, 0);
        int number = 2;
        for (int kind = 5; kind <= 7; kind++) {
            for (int wrong : new int[] {-1, number, 24, LEAST, GREATEST}) {
                Check.refused("a = " + wrong + ", kind " + kind, c.expression(kind, wrong, 0));
                if (kind > 5) {
                    Check.refused("b = " + wrong + ", kind " + kind, c.expression(kind, 0, wrong));
                    Check.refused("both = " + wrong + ", kind " + kind, c.expression(kind, wrong, wrong));
                }
            }
            Check.due("the first and the last, kind " + kind, c.expression(kind, 0, number - 1), number++);
            Check.due("the same twice, kind " + kind, c.expression(kind, 1, 1), number++);
        }
    }

    private static void whereBHasNoMeaning() {
        Check.about("Promise 3: Elsewhere b has no meaning");
        ForcedChart c = new ForcedChart();
        c.step(0, false);
        int number = 0;
        for (int kind : new int[] {0, 1, 2, 3, 5}) {
            for (int b : new int[] {-1, LONGEST + 1, LEAST, GREATEST}) {
                Check.due("kind " + kind + ", b = " + b, c.expression(kind, 0, b), number++);
            }
        }
    }

    private static void depthOfNot() {
        Check.about("Promise 3: its depth would be more than 4; Terms: kind 5 has the depth of a + 1");
        ForcedChart c = new ForcedChart();
        c.step(0, false);
        for (int kind = 0; kind <= 4; kind++) {
            c.expression(kind, 0, 0);
        }
        for (int depth = 1; depth <= 4; depth++) {
            Check.due("depth " + depth, c.expression(5, depth == 1 ? 0 : 3 + depth, 0), 4 + depth);
        }
        Check.refused("depth 5", c.expression(5, 8, 0));
        Check.due("the depth of b does not count", c.expression(5, 4, 8), 9);
        Check.due("nor is it the new one's", c.expression(5, 9, 8), 10);
        // Kinds 0 to 4 have the depth 0, also where a or b is the number of a deep expression.
        for (int kind = 0; kind <= 4; kind++) {
            int plain = c.expression(kind, 0, 8);
            Check.due("not of kind " + kind, c.expression(5, plain, 0), plain + 1);
        }
    }

    private static void depthOfBothAndEither() {
        Check.about("Terms: kinds 6 and 7 the greater of the depths of a and b, + 1. No depth is more than 4.");
        for (int kind = 6; kind <= 7; kind++) {
            ForcedChart c = new ForcedChart();
            c.expression(0, 0, 0);
            Check.due("depth 1", c.expression(kind, 0, 0), 1);
            Check.due("depth 2 by a", c.expression(kind, 1, 0), 2);
            Check.due("depth 3 by b", c.expression(kind, 0, 2), 3);
            Check.due("depth 4 by both", c.expression(kind, 3, 3), 4);
            Check.refused("depth 5 by a", c.expression(kind, 4, 0));
            Check.refused("depth 5 by b", c.expression(kind, 0, 4));
            Check.refused("depth 5 by both", c.expression(kind, 4, 4));
            Check.due("depth 4 by b", c.expression(kind, 2, 3), 5);
            Check.refused("not, depth 5", c.expression(5, 5, 0));
            Check.due("depth 4 by a", c.expression(kind, 3, 2), 6);
            Check.refused("not, depth 5", c.expression(5, 6, 0));
            Check.due("the depths are not added up", c.expression(kind, 2, 2), 7);
            Check.due("depth 4", c.expression(kind, 7, 7), 8);
        }
    }

    private static void atMost24Expressions() {
        Check.about("Promise 3: 24 are there; Terms: EXPRESSIONS 0, 1, .. (at most 24)");
        ForcedChart c = new ForcedChart();
        Charts.steps(c, 0, 2, 1);
        for (int i = 0; i < 23; i++) {
            Check.due("expression " + i, c.expression(0, i % 8, 0), i);
        }
        Check.due("24th expression", c.expression(6, 0, 22), 23);
        for (int kind = 0; kind <= 7; kind++) {
            Check.refused("25th expression, kind " + kind, c.expression(kind, 0, 0));
        }
        Check.due("transition with the 24th", c.transition(1, 2, 23), 0);
        c.start(false);
        Check.due("the 24th is false", c.scan(1, 0), 0);
        Check.due("the 24th is true", c.scan(1 | 64, 0), 1);
    }

    private static ForcedChart fourSteps() {
        ForcedChart c = new ForcedChart();
        c.step(0, true);
        c.step(1, true);
        c.step(0, false);
        c.step(1, false);
        c.expression(0, 0, 0);
        return c;
    }

    private static void setsOfTransitionsAreNotEmpty() {
        Check.about("Promise 4: a set is empty");
        ForcedChart c = fourSteps();
        Check.refused("from none", c.transition(0, 1, 0));
        Check.refused("to none", c.transition(1, 0, 0));
        Check.refused("from and to none", c.transition(0, 0, 0));
        Check.due("from one to the same", c.transition(1, 1, 0), 0);
    }

    private static void setsOfTransitionsAreThere() {
        Check.about("Promise 4: or has a member that is no step that is there");
        ForcedChart c = new ForcedChart();
        c.expression(0, 0, 0);
        int number = 0;
        for (int count = 1; count <= 8; count++) {
            c.step(0, false);
            int next = 1 << count;
            for (int set : new int[] {next, 1 | next, 1 | 256, 1 << 30, LEAST, LEAST | 1, -1, GREATEST}) {
                Check.refused("from " + set, c.transition(set, 1, 0));
                Check.refused("to " + set, c.transition(1, set, 0));
            }
            Check.due("from and to the last", c.transition(next >> 1, next >> 1, 0), number++);
        }
        Check.due("from and to all", c.transition(255, 255, 0), number);
    }

    private static void transitionsAreInOnePart() {
        Check.about("Promise 4: the steps are not all in one part");
        ForcedChart c = fourSteps();
        c.step(2, false);
        int[] parts = {1 | 4, 2 | 8, 16};
        int number = 0;
        for (int from : parts) {
            for (int to : parts) {
                if (from == to) {
                    Check.due("from " + from + " to " + to, c.transition(from, to, 0), number++);
                } else {
                    Check.refused("from " + from + " to " + to, c.transition(from, to, 0));
                    Check.refused("from two parts", c.transition(from | to, to, 0));
                    Check.refused("to two parts", c.transition(from, from | to, 0));
                    Check.refused("from and to two parts", c.transition(from | to, from | to, 0));
                }
            }
        }
    }

    private static void expressionsOfTransitions() {
        Check.about("Promise 4: or there is no such expression");
        ForcedChart c = new ForcedChart();
        c.step(0, true);
        Check.refused("expression 0 of none", c.transition(1, 1, 0));
        c.expression(0, 0, 0);
        c.expression(0, 1, 0);
        for (int expression : new int[] {-1, 2, 24, 32, LEAST, GREATEST}) {
            Check.refused("expression " + expression, c.transition(1, 1, expression));
        }
        Check.due("expression 0", c.transition(1, 1, 0), 0);
        Check.due("expression 1", c.transition(1, 1, 1), 1);
    }

    private static void atMost12Transitions() {
        Check.about("Promise 4: 12 are there; Terms: TRANSITIONS 0, 1, .. (at most 12)");
        ForcedChart c = Charts.withTrue();
        Charts.steps(c, 0, 2, 1);
        for (int i = 0; i < 11; i++) {
            Check.due("transition " + i, c.transition(1 | 2, 1, 0), i);
        }
        Check.due("12th transition", c.transition(1, 2, Charts.TRUE), 11);
        Check.refused("13th transition", c.transition(1, 2, 0));
        c.start(false);
        Check.due("the 12th is enabled", c.enabled(), 2048);
        Check.due("it is due", c.scan(0, 0), 1);
        Check.due("it was cleared", c.cleared(), 2048);
    }

    private static void stepsOfOrders() {
        Check.about("Promise 5: there is no such step");
        ForcedChart c = new ForcedChart();
        for (int count = 0; count < 4; count++) {
            for (int step : new int[] {-1, count, 8, LEAST, GREATEST}) {
                Check.refused("order of step " + step, c.order(step, 2, 0));
            }
            c.step(0, false);
            Check.due("order of step " + count, c.order(count, 2, 0), count);
        }
    }

    private static void partsOfOrders() {
        Check.about("Promise 5: part is not greater than the step's part or is greater than 2");
        for (int own = 0; own <= 2; own++) {
            ForcedChart c = new ForcedChart();
            c.step(own, true);
            int number = 0;
            for (int part : new int[] {LEAST, -1, 0, 1, 2, 3, GREATEST}) {
                if (part > own && part <= 2) {
                    Check.due("order from " + own + " to " + part, c.order(0, part, 0), number++);
                } else {
                    Check.refused("order from " + own + " to " + part, c.order(0, part, 0));
                    Check.refused("freeze from " + own + " to " + part, c.order(0, part, ForcedChart.FREEZE));
                }
            }
        }
    }

    private static void fixedSets() {
        Check.about("Promise 5: fixed is neither FREEZE nor a set of steps of that part that are there; "
                + "Terms: (it may be empty)");
        ForcedChart c = new ForcedChart();
        c.step(0, true);
        c.step(1, false);
        c.step(2, false);
        c.step(1, false);
        for (int fixed : new int[] {1, 4, 2 | 4, 1 | 2, 16, 2 | 16, 256 | 2, -2, LEAST, LEAST | 2, GREATEST}) {
            Check.refused("fixed " + fixed, c.order(0, 1, fixed));
        }
        Check.due("all of the part", c.order(0, 1, 2 | 8), 0);
        Check.due("empty", c.order(0, 1, 0), 1);
        Check.due("FREEZE", c.order(0, 1, ForcedChart.FREEZE), 2);

        ForcedChart d = new ForcedChart();
        d.step(0, true);
        Check.refused("a step that is not there", d.order(0, 1, 2));
        Check.due("empty, of a part without steps", d.order(0, 1, 0), 0);
        Check.due("FREEZE, of a part without steps", d.order(0, 2, ForcedChart.FREEZE), 1);
        d.step(1, false);
        Check.due("the step is there", d.order(0, 1, 2), 2);
    }

    private static void atMost4Orders() {
        Check.about("Promise 5: 4 are there; Terms: ORDERS 0, 1, .. (at most 4)");
        ForcedChart c = new ForcedChart();
        c.step(0, true);
        c.step(0, false);
        c.step(1, false);
        for (int i = 0; i < 3; i++) {
            Check.due("order " + i, c.order(1, 1, 0), i);
        }
        Check.due("fourth order", c.order(0, 1, 4), 3);
        Check.refused("fifth order", c.order(0, 1, 4));
        Check.refused("fifth order", c.order(0, 2, ForcedChart.FREEZE));
        c.start(false);
        Check.due("the fourth rules", c.scan(0, 0), 1);
        Check.due("active", c.active(), 1 | 4);
    }

    private static void stepsOfActions() {
        Check.about("Promise 6: there is no such step");
        ForcedChart c = new ForcedChart();
        for (int count = 0; count < 8; count++) {
            for (int step : new int[] {-1, count, 8, LEAST, GREATEST}) {
                Check.refused("action of step " + step, c.action(step, 0, 0, 0));
            }
            c.step(count % 3, false);
            Check.due("action of step " + count, c.action(count, 0, 0, 0), count);
        }
        Check.refused("action of step 8", c.action(8, 0, 0, 0));
    }

    private static void qualifiersOfActions() {
        Check.about("Promise 6: qualifier is not 0 .. 9");
        ForcedChart c = new ForcedChart();
        c.step(0, true);
        for (int qualifier : new int[] {-1, 10, 11, LEAST, GREATEST}) {
            Check.refused("qualifier " + qualifier, c.action(0, qualifier, 0, 0));
        }
        for (int qualifier = 0; qualifier <= 9; qualifier++) {
            Check.due("qualifier " + qualifier, c.action(0, qualifier, 0, 0), qualifier);
        }
    }

    private static void variablesOfActions() {
        Check.about("Promise 6: variable is not 0 .. 7");
        ForcedChart c = new ForcedChart();
        c.step(0, true);
        for (int variable : new int[] {-1, 8, 32, LEAST, GREATEST}) {
            Check.refused("variable " + variable, c.action(0, 0, variable, 0));
        }
        for (int variable = 0; variable <= 7; variable++) {
            Check.due("variable " + variable, c.action(0, 0, variable, 0), variable);
        }
        c.start(false);
        c.scan(0, 0);
        Check.due("all are on", c.outputs(), 255);
    }

    private static void durationsOfActions() {
        Check.about("Promise 6: or duration (whatever the qualifier) is not 0 .. 1000000");
        for (int qualifier = 0; qualifier <= 9; qualifier++) {
            ForcedChart c = new ForcedChart();
            c.step(0, true);
            for (int duration : new int[] {-1, LONGEST + 1, LEAST, GREATEST}) {
                Check.refused("qualifier " + qualifier + ", duration " + duration, c.action(0, qualifier, 0, duration));
            }
            Check.due("qualifier " + qualifier + ", duration 0", c.action(0, qualifier, 0, 0), 0);
            Check.due("qualifier " + qualifier + ", duration 1000000", c.action(0, qualifier, 0, LONGEST), 1);
        }
    }

    private static void atMost12Actions() {
        Check.about("Promise 6: 12 are there; Terms: ACTIONS 0, 1, .. (at most 12)");
        ForcedChart c = new ForcedChart();
        c.step(0, true);
        for (int i = 0; i < 11; i++) {
            Check.due("action " + i, c.action(0, 1, 0, 0), i);
        }
        Check.due("12th action", c.action(0, 2, 7, 0), 11);
        for (int qualifier = 0; qualifier <= 9; qualifier++) {
            Check.refused("13th action, qualifier " + qualifier, c.action(0, qualifier, 1, 0));
        }
        c.start(false);
        c.scan(0, 0);
        Check.due("the 12th is on", c.outputs(), 128);
        Check.due("the 12th is stored", c.stored(11), true);
        Check.due("a 13th is not", c.stored(12), false);
    }
}
