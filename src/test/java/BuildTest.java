/** Promises 1 to 7: a new object, and what builds a chart or refuses to. */
public final class BuildTest {
    private static final int REFUSED = ForcedChart.REFUSED;

    public static void main(String[] args) {
        newObject();
        steps();
        expressionNumbers();
        expressionDepths();
        expressionLimit();
        transitions();
        orders();
        actions();
        nothingIsBuiltWhileRunning();
        refusedCallsChangeNothing();
        unreachedByTransitions();
        unreachedByOrders();
        Check.end();
    }

    private static void newObject() {
        ForcedChart c = new ForcedChart();
        Check.due("new: active", c.active(), 0);
        Check.due("new: enabled", c.enabled(), 0);
        Check.due("new: outputs", c.outputs(), 0);
        Check.due("new: evolutions", c.evolutions(), 0);
        Check.due("new: cleared", c.cleared(), 0);
        Check.due("new: lead", c.lead(), 0);
        Check.due("new: period", c.period(), 0);
        Check.due("new: unreached", c.unreached(), 0);
        Check.due("new: time(0)", c.time(0), 0);
        Check.due("new: stored(0)", c.stored(0), false);
        Check.due("new: scan", c.scan(1, 1), REFUSED);
        Check.due("new: start", c.start(false), false);
        Check.due("new: expression of a step", c.expression(3, 0, 0), REFUSED);
        Check.due("new: expression of an expression", c.expression(5, 0, 0), REFUSED);
        Check.due("new: step", c.step(0, false), 0);
        Check.due("new: expression", c.expression(0, 0, 0), 0);
        Check.due("new: transition", c.transition(1, 1, 0), 0);
        Check.due("new: order", c.order(0, 1, 0), 0);
        Check.due("new: action", c.action(0, 0, 0, 0), 0);
        Check.due("objects are apart", new ForcedChart().step(2, true), 0);
    }

    private static void steps() {
        ForcedChart c = new ForcedChart();
        Check.due("step in part -1", c.step(-1, true), REFUSED);
        Check.due("step in part 3", c.step(3, true), REFUSED);
        Check.due("step in the least part", c.step(Integer.MIN_VALUE, true), REFUSED);
        Check.due("step in the greatest part", c.step(Integer.MAX_VALUE, true), REFUSED);
        for (int i = 0; i < 8; i++) {
            Check.due("step " + i, c.step(i % 3, i % 2 == 0), i);
        }
        Check.due("ninth step", c.step(0, true), REFUSED);
        Check.due("start with steps", c.start(false), true);
        Check.due("initial steps", c.active(), 0x55);
    }

    private static void expressionNumbers() {
        ForcedChart c = new ForcedChart();
        c.step(0, true);
        c.step(2, false);
        int number = 0;
        for (int kind = 0; kind <= 2; kind++) {
            Check.due("input -1, kind " + kind, c.expression(kind, -1, 0), REFUSED);
            Check.due("input 8, kind " + kind, c.expression(kind, 8, 0), REFUSED);
            Check.due("input 0, kind " + kind, c.expression(kind, 0, -5), number++);
            Check.due("input 7, kind " + kind, c.expression(kind, 7, Integer.MAX_VALUE), number++);
        }
        for (int kind = 3; kind <= 4; kind++) {
            Check.due("step -1, kind " + kind, c.expression(kind, -1, 0), REFUSED);
            Check.due("step 2, kind " + kind, c.expression(kind, 2, 0), REFUSED);
            Check.due("step 1, kind " + kind, c.expression(kind, 1, 0), number++);
        }
        Check.due("kind 3 with any b", c.expression(3, 0, -1), number++);
        Check.due("time -1", c.expression(4, 0, -1), REFUSED);
        Check.due("time 1000001", c.expression(4, 0, 1000001), REFUSED);
        Check.due("time 1000000", c.expression(4, 0, 1000000), number++);
        Check.due("not -1", c.expression(5, -1, 0), REFUSED);
        Check.due("not of itself", c.expression(5, number, 0), REFUSED);
        Check.due("not with any b", c.expression(5, number - 1, 99), number++);
        for (int kind = 6; kind <= 7; kind++) {
            Check.due("a = -1, kind " + kind, c.expression(kind, -1, 0), REFUSED);
            Check.due("b = -1, kind " + kind, c.expression(kind, 0, -1), REFUSED);
            Check.due("a of itself, kind " + kind, c.expression(kind, number, 0), REFUSED);
            Check.due("b of itself, kind " + kind, c.expression(kind, 0, number), REFUSED);
            Check.due("twice the same, kind " + kind, c.expression(kind, 0, 0), number++);
        }
        Check.due("kind -1", c.expression(-1, 0, 0), REFUSED);
        Check.due("kind 8", c.expression(8, 0, 0), REFUSED);
        Check.due("least kind", c.expression(Integer.MIN_VALUE, 0, 0), REFUSED);
        Check.due("greatest kind", c.expression(Integer.MAX_VALUE, 0, 0), REFUSED);
    }

    private static void expressionDepths() {
        ForcedChart c = new ForcedChart();
        c.step(0, true);
        c.expression(0, 0, 0);
        Check.due("depth 1", c.expression(5, 0, 0), 1);
        Check.due("depth 2", c.expression(6, 0, 1), 2);
        Check.due("depth 3", c.expression(7, 2, 0), 3);
        Check.due("depth 4", c.expression(5, 3, 0), 4);
        Check.due("not, depth 5", c.expression(5, 4, 0), REFUSED);
        Check.due("and, depth 5 by a", c.expression(6, 4, 0), REFUSED);
        Check.due("and, depth 5 by b", c.expression(6, 0, 4), REFUSED);
        Check.due("or, depth 5 by a", c.expression(7, 4, 0), REFUSED);
        Check.due("or, depth 5 by b", c.expression(7, 0, 4), REFUSED);
        Check.due("and, depth 4 by b", c.expression(6, 0, 3), 5);
        Check.due("that is deep too", c.expression(5, 5, 0), REFUSED);
        Check.due("or, depth 4 by a", c.expression(7, 3, 0), 6);
        Check.due("that is deep too", c.expression(7, 6, 6), REFUSED);
        Check.due("a has no depth in kind 3", c.expression(3, 0, 4), 7);
        Check.due("b has no depth in kind 5", c.expression(5, 0, 4), 8);
        Check.due("b has no depth in kind 5, and gives none", c.expression(5, 8, 4), 9);
    }

    private static void expressionLimit() {
        ForcedChart c = new ForcedChart();
        for (int i = 0; i < 24; i++) {
            Check.due("expression " + i, c.expression(0, i % 8, 0), i);
        }
        Check.due("25th expression", c.expression(0, 0, 0), REFUSED);
        c.step(0, true);
        Check.due("transition with expression 24", c.transition(1, 1, 24), REFUSED);
        Check.due("transition with expression 23", c.transition(1, 1, 23), 0);
    }

    private static void transitions() {
        ForcedChart c = new ForcedChart();
        c.step(0, true);
        c.step(1, true);
        c.step(0, false);
        c.step(1, false);
        Check.due("transition without expression", c.transition(1, 4, 0), REFUSED);
        c.expression(0, 0, 0);
        Check.due("from none", c.transition(0, 1, 0), REFUSED);
        Check.due("to none", c.transition(1, 0, 0), REFUSED);
        Check.due("from and to none", c.transition(0, 0, 0), REFUSED);
        Check.due("from a step that is not there", c.transition(1 | 16, 1, 0), REFUSED);
        Check.due("to a step that is not there", c.transition(1, 1 | 16, 0), REFUSED);
        Check.due("from -1", c.transition(-1, 1, 0), REFUSED);
        Check.due("to -1", c.transition(1, -1, 0), REFUSED);
        Check.due("from the least", c.transition(Integer.MIN_VALUE, 1, 0), REFUSED);
        Check.due("to the least, and more", c.transition(1, Integer.MIN_VALUE | 1, 0), REFUSED);
        Check.due("from two parts", c.transition(1 | 2, 1, 0), REFUSED);
        Check.due("to two parts", c.transition(1, 1 | 2, 0), REFUSED);
        Check.due("from part to part", c.transition(1, 2, 0), REFUSED);
        Check.due("expression -1", c.transition(1, 4, -1), REFUSED);
        Check.due("expression 1", c.transition(1, 4, 1), REFUSED);
        Check.due("all of part 0", c.transition(1 | 4, 1 | 4, 0), 0);
        Check.due("in part 1", c.transition(2, 8, 0), 1);
        for (int i = 2; i < 12; i++) {
            Check.due("transition " + i, c.transition(4, 1, 0), i);
        }
        Check.due("13th transition", c.transition(4, 1, 0), REFUSED);
    }

    private static void orders() {
        ForcedChart c = new ForcedChart();
        Check.due("order without step", c.order(0, 1, 0), REFUSED);
        c.step(0, true);
        c.step(1, false);
        c.step(2, false);
        Check.due("order of step -1", c.order(-1, 1, 2), REFUSED);
        Check.due("order of step 3", c.order(3, 1, 2), REFUSED);
        Check.due("order to its own part", c.order(0, 0, 1), REFUSED);
        Check.due("order to a lesser part", c.order(1, 0, 1), REFUSED);
        Check.due("order from the last part", c.order(2, 2, 4), REFUSED);
        Check.due("order from the last part to none", c.order(2, 3, 0), REFUSED);
        Check.due("order to part -1", c.order(0, -1, 0), REFUSED);
        Check.due("order to part 3", c.order(0, 3, 0), REFUSED);
        Check.due("fixed of another part", c.order(0, 1, 4), REFUSED);
        Check.due("fixed of two parts", c.order(0, 1, 2 | 4), REFUSED);
        Check.due("fixed with no step", c.order(0, 1, 2 | 8), REFUSED);
        Check.due("fixed -2", c.order(0, 1, -2), REFUSED);
        Check.due("fixed the least", c.order(0, 1, Integer.MIN_VALUE), REFUSED);
        Check.due("fixed", c.order(0, 1, 2), 0);
        Check.due("empty", c.order(0, 2, 0), 1);
        Check.due("freeze", c.order(1, 2, ForcedChart.FREEZE), 2);
        Check.due("again", c.order(0, 1, 2), 3);
        Check.due("fifth order", c.order(0, 1, 2), REFUSED);
    }

    private static void actions() {
        ForcedChart c = new ForcedChart();
        Check.due("action without step", c.action(0, 0, 0, 0), REFUSED);
        c.step(0, true);
        Check.due("action of step -1", c.action(-1, 0, 0, 0), REFUSED);
        Check.due("action of step 1", c.action(1, 0, 0, 0), REFUSED);
        Check.due("qualifier -1", c.action(0, -1, 0, 0), REFUSED);
        Check.due("qualifier 10", c.action(0, 10, 0, 0), REFUSED);
        Check.due("variable -1", c.action(0, 0, -1, 0), REFUSED);
        Check.due("variable 8", c.action(0, 0, 8, 0), REFUSED);
        for (int qualifier = 0; qualifier <= 9; qualifier++) {
            Check.due("duration -1 of " + qualifier, c.action(0, qualifier, 0, -1), REFUSED);
            Check.due("duration 1000001 of " + qualifier, c.action(0, qualifier, 0, 1000001), REFUSED);
            Check.due("qualifier " + qualifier, c.action(0, qualifier, 7, 1000000), qualifier);
        }
        Check.due("action 10", c.action(0, 0, 0, 0), 10);
        Check.due("action 11", c.action(0, 0, 0, 0), 11);
        Check.due("13th action", c.action(0, 0, 0, 0), REFUSED);
    }

    private static void nothingIsBuiltWhileRunning() {
        ForcedChart c = new ForcedChart();
        c.step(0, true);
        c.expression(0, 0, 0);
        Check.due("start", c.start(false), true);
        Check.due("step while running", c.step(0, false), REFUSED);
        Check.due("expression while running", c.expression(0, 0, 0), REFUSED);
        Check.due("transition while running", c.transition(1, 1, 0), REFUSED);
        Check.due("order while running", c.order(0, 1, 0), REFUSED);
        Check.due("action while running", c.action(0, 0, 0, 0), REFUSED);
        c.stop();
        Check.due("step after stop", c.step(0, false), 1);
        Check.due("expression after stop", c.expression(0, 0, 0), 1);
        Check.due("transition after stop", c.transition(1, 2, 0), 0);
        Check.due("order after stop", c.order(0, 1, 0), 0);
        Check.due("action after stop", c.action(0, 0, 0, 0), 0);
    }

    private static void refusedCallsChangeNothing() {
        ForcedChart c = new ForcedChart();
        c.step(3, true);
        Check.due("a refused initial step is none", c.start(false), false);
        c.step(0, true);
        c.step(0, false);
        c.expression(9, 0, 0);
        c.expression(0, 0, 0);
        c.transition(1, 2, 1);
        c.order(1, 1, 1);
        c.action(0, 0, 0, -1);
        Check.due("unreached after refusals", c.unreached(), 2);
        c.start(true);
        Check.due("no refused transition is enabled", c.enabled(), 0);
        Check.due("scan after refusals", c.scan(1, 1), 0);
        Check.due("no refused action is on", c.outputs(), 0);
    }

    private static void unreachedByTransitions() {
        ForcedChart c = new ForcedChart();
        for (int i = 0; i < 8; i++) {
            c.step(0, i == 7);
        }
        Check.due("nothing but the initial step", c.unreached(), 0x7f);
        c.expression(0, 0, 0);
        // The chain goes against the numbers, so that one pass in their order is not enough.
        for (int i = 0; i < 6; i++) {
            c.transition(1 << i + 1, 1 << i, 0);
        }
        Check.due("no link to the initial step", c.unreached(), 0x7f);
        c.transition(128, 64, 0);
        Check.due("a chain of seven links", c.unreached(), 0);

        ForcedChart d = new ForcedChart();
        for (int i = 0; i < 5; i++) {
            d.step(1, i == 0);
        }
        d.expression(0, 0, 0);
        d.expression(5, 0, 0);
        d.expression(6, 0, 1);
        d.transition(1 | 2, 4, 0);
        Check.due("not all preceding are reached", d.unreached(), 2 | 4 | 8 | 16);
        d.transition(1, 2 | 8, 2);
        Check.due("what an expression says has no part", d.unreached(), 16);
        d.transition(16, 16, 0);
        Check.due("a loop does not reach itself", d.unreached(), 16);
        d.start(false);
        Check.due("also while running", d.unreached(), 16);
        d.stop();
        Check.due("and after it", d.unreached(), 16);
    }

    private static void unreachedByOrders() {
        ForcedChart c = new ForcedChart();
        c.step(0, true);
        c.step(0, false);
        c.step(1, false);
        c.step(1, false);
        c.step(2, false);
        c.expression(0, 0, 0);
        c.order(2, 2, 16);
        Check.due("the order's step is not reached", c.unreached(), 2 | 4 | 8 | 16);
        c.order(1, 1, 8);
        c.order(0, 1, ForcedChart.FREEZE);
        Check.due("freeze reaches nothing", c.unreached(), 2 | 4 | 8 | 16);
        c.order(0, 1, 4);
        Check.due("orders reach on", c.unreached(), 2 | 8);
        c.transition(1, 2, 0);
        Check.due("a transition reaches an order's step", c.unreached(), 0);
    }
}
