/** Promises 6, 14 and 15: what each qualifier does. */
public final class ActionTest {
    private static final int DURATION = 10;
    private static final int STAY = 0;
    private static final int REST = 1;
    private static final int WORK = 2;
    private static final int RESET = 4;

    public static void main(String[] args) {
        whileActive();
        reset();
        set();
        limited();
        delayed();
        atBegin();
        atEnd();
        setThenDelayed();
        delayedThenSet();
        setThenLimited();
        durationOfNothing();
        sharedVariables();
        resetByItsOwnStep();
        manyAtOnce();
        storedNumbers();
        outputsLast();
        atRestBetween();
        Check.end();
    }

    /**
     * Step 0 is at rest, step 1 works, step 2 resets; the input of a step's number leads there from the others. The
     * action under test is number 0, of step 1 and variable 4; action 1 resets that variable in step 2.
     */
    private static ForcedChart chart(int qualifier, int duration) {
        ForcedChart c = new ForcedChart();
        for (int i = 0; i < 3; i++) {
            c.step(0, i == 0);
            c.expression(0, i, 0);
        }
        for (int i = 0; i < 3; i++) {
            c.transition(1 << i, 1 << (i + 1) % 3, (i + 1) % 3);
            c.transition(1 << i, 1 << (i + 2) % 3, (i + 2) % 3);
        }
        c.action(1, qualifier, 4, duration);
        c.action(2, 1, 4, 0);
        c.start(false);
        return c;
    }

    private static void scan(ForcedChart c, int inputs, int dt, boolean on, boolean stored) {
        c.scan(inputs, dt);
        String at = "time " + c.time(1) + " of step 1, situation " + c.active() + ": ";
        Check.due(at + "outputs", c.outputs(), on ? 16 : 0);
        Check.due(at + "stored", c.stored(0), stored);
    }

    private static void whileActive() {
        ForcedChart c = chart(0, 0);
        scan(c, STAY, 5, false, false);
        scan(c, WORK, 5, true, false);
        scan(c, STAY, 50, true, false);
        scan(c, REST, 0, false, false);
        scan(c, WORK, 0, true, false);
        scan(c, RESET, 0, false, false);
    }

    private static void reset() {
        ForcedChart c = chart(1, 0);
        scan(c, STAY, 5, false, false);
        scan(c, WORK, 5, false, false);
        scan(c, STAY, 5, false, false);
        scan(c, RESET, 5, false, false);
        Check.due("a resetting action is not stored", c.stored(1), false);
    }

    private static void set() {
        ForcedChart c = chart(2, DURATION);
        scan(c, STAY, 5, false, false);
        scan(c, WORK, 5, true, true);
        scan(c, REST, 5, true, true);
        scan(c, STAY, 500, true, true);
        scan(c, RESET, 5, false, false);
        scan(c, REST, 5, false, false);
        scan(c, WORK, 5, true, true);
        scan(c, RESET, 5, false, false);
    }

    private static void limited() {
        ForcedChart c = chart(3, DURATION);
        scan(c, STAY, 5, false, false);
        scan(c, WORK, 50, true, false);
        scan(c, STAY, 9, true, false);
        scan(c, STAY, 1, false, false);
        scan(c, STAY, 1, false, false);
        scan(c, REST, 0, false, false);
        scan(c, WORK, 0, true, false);
        scan(c, REST, 0, false, false);
    }

    private static void delayed() {
        ForcedChart c = chart(4, DURATION);
        scan(c, STAY, 50, false, false);
        scan(c, WORK, 50, false, false);
        scan(c, STAY, 9, false, false);
        scan(c, STAY, 1, true, false);
        scan(c, STAY, 1, true, false);
        scan(c, REST, 0, false, false);
    }

    private static void atBegin() {
        ForcedChart c = chart(5, DURATION);
        scan(c, STAY, 5, false, false);
        scan(c, WORK, 5, true, false);
        scan(c, STAY, 0, false, false);
        scan(c, REST, 0, false, false);
        scan(c, WORK, 0, true, false);

        ForcedChart d = new ForcedChart();
        d.step(0, true);
        d.action(0, 5, 4, 0);
        d.start(true);
        scan(d, STAY, 5, true, false);
        scan(d, STAY, 5, false, false);
        d.stop();
        d.start(true);
        scan(d, STAY, 5, true, false);
    }

    private static void atEnd() {
        ForcedChart c = chart(6, DURATION);
        scan(c, STAY, 5, false, false);
        scan(c, WORK, 5, false, false);
        scan(c, STAY, 5, false, false);
        scan(c, REST, 0, true, false);
        scan(c, STAY, 0, false, false);
        scan(c, WORK, 5, false, false);
        scan(c, RESET, 0, false, false);
        c.stop();
        c.action(0, 6, 3, 0);
        c.start(false);
        c.scan(WORK, 0);
        Check.due("left in the first scan, but was not active at the end of one before", c.outputs(), 0);
        c.scan(REST, 0);
        c.scan(WORK, 0);
        Check.due("left in a later one", c.outputs(), 8);
    }

    private static void setThenDelayed() {
        ForcedChart c = chart(7, DURATION);
        scan(c, STAY, 50, false, false);
        scan(c, WORK, 50, false, true);
        scan(c, REST, 4, false, true);
        scan(c, WORK, 5, false, true);
        scan(c, STAY, 1, true, true);
        scan(c, REST, 1, true, true);
        scan(c, RESET, 1, false, false);
        scan(c, WORK, 1, false, true);
        scan(c, REST, 9, false, true);
        scan(c, STAY, 1, true, true);
    }

    private static void delayedThenSet() {
        ForcedChart c = chart(8, DURATION);
        scan(c, STAY, 50, false, false);
        scan(c, WORK, 50, false, false);
        scan(c, STAY, 9, false, false);
        scan(c, REST, 9, false, false);
        scan(c, WORK, 9, false, false);
        scan(c, STAY, 9, false, false);
        scan(c, STAY, 1, true, true);
        scan(c, REST, 1, true, true);
        scan(c, STAY, 1, true, true);
        scan(c, RESET, 1, false, false);
        scan(c, WORK, 1, false, false);
    }

    private static void setThenLimited() {
        ForcedChart c = chart(9, DURATION);
        scan(c, STAY, 50, false, false);
        scan(c, WORK, 50, true, true);
        scan(c, REST, 5, true, true);
        scan(c, STAY, 4, true, true);
        scan(c, STAY, 1, false, true);
        scan(c, WORK, 1, false, true);
        scan(c, REST, 1, false, true);
        scan(c, RESET, 1, false, false);
        scan(c, REST, 1, false, false);
        scan(c, WORK, 1, true, true);
        scan(c, STAY, 9, true, true);
        scan(c, STAY, 1, false, true);
    }

    private static void durationOfNothing() {
        ForcedChart c = new ForcedChart();
        c.step(0, true);
        for (int qualifier = 2; qualifier <= 9; qualifier++) {
            c.action(0, qualifier, qualifier - 2, 0);
        }
        c.start(false);
        c.scan(0, 0);
        Check.due("first scan, all durations 0", c.outputs(), 1 | 4 | 8 | 32 | 64);
        c.scan(0, 0);
        Check.due("second scan, all durations 0", c.outputs(), 1 | 4 | 32 | 64);
        Check.due("9 is stored, though never on", c.stored(7), true);
    }

    private static void sharedVariables() {
        ForcedChart c = new ForcedChart();
        c.step(0, true);
        c.step(1, true);
        c.step(1, false);
        c.expression(0, 0, 0);
        c.expression(0, 1, 0);
        c.transition(2, 4, 0);
        c.transition(4, 2, 1);
        c.action(0, 0, 0, 0);
        c.action(2, 1, 0, 0);
        c.action(0, 4, 0, DURATION);
        c.action(2, 0, 1, 0);
        c.action(1, 0, 1, 0);
        c.action(0, 2, 2, 0);
        c.action(2, 2, 0, 0);
        c.start(false);
        c.scan(0, 0);
        Check.due("one of two is on", c.outputs(), 1 | 2 | 4);
        c.scan(1, 0);
        Check.due("a reset is stronger, for its own variable", c.outputs(), 2 | 4);
        Check.due("what another variable stored", c.stored(5), true);
        Check.due("what the reset one would store", c.stored(6), false);
        c.scan(2, 0);
        Check.due("the reset is over", c.outputs(), 1 | 2 | 4);
    }

    private static void resetByItsOwnStep() {
        for (int qualifier = 2; qualifier <= 9; qualifier++) {
            ForcedChart c = new ForcedChart();
            c.step(0, true);
            c.action(0, qualifier, 4, 0);
            c.action(0, 1, 4, 0);
            c.start(false);
            scan(c, STAY, 1, false, false);
            scan(c, STAY, 1, false, false);
        }
    }

    private static void manyAtOnce() {
        ForcedChart c = new ForcedChart();
        c.step(0, true);
        c.step(0, false);
        c.expression(0, 0, 0);
        c.transition(1, 2, 0);
        for (int variable = 0; variable < 4; variable++) {
            c.action(1, 1, variable, 0);
            c.action(0, 2, variable, 0);
        }
        c.action(0, 2, 7, 0);
        c.start(false);
        c.scan(0, 0);
        Check.due("all are stored", c.outputs(), 15 | 128);
        c.scan(1, 0);
        Check.due("all but one are reset", c.outputs(), 128);
        for (int action = 0; action < 9; action++) {
            Check.due("stored(" + action + ")", c.stored(action), action == 8);
        }
    }

    private static void storedNumbers() {
        ForcedChart c = chart(2, 0);
        c.scan(WORK, 0);
        Check.due("stored(0)", c.stored(0), true);
        Check.due("stored(1)", c.stored(1), false);
        Check.due("stored(2)", c.stored(2), false);
        Check.due("stored(-1)", c.stored(-1), false);
        Check.due("stored(32)", c.stored(32), false);
        Check.due("stored(-32)", c.stored(-32), false);
        Check.due("stored of the least", c.stored(Integer.MIN_VALUE), false);
        Check.due("stored of the greatest", c.stored(Integer.MAX_VALUE), false);
    }

    private static void outputsLast() {
        ForcedChart c = chart(0, 0);
        Check.due("outputs before a scan", c.outputs(), 0);
        c.scan(WORK, 0);
        Check.due("refused", c.scan(REST, -1), ForcedChart.REFUSED);
        Check.due("outputs after what is refused", c.outputs(), 16);
        c.stop();
        Check.due("outputs after stop", c.outputs(), 0);
    }

    /** A step that ends and begins in one settling scan: only the ends of scans count for 5 and 6. */
    private static void atRestBetween() {
        ForcedChart c = new ForcedChart();
        c.step(0, true);
        c.step(0, false);
        c.expression(1, 0, 0);
        c.expression(0, 1, 0);
        c.expression(5, 1, 0);
        c.transition(1, 2, 0);
        c.transition(2, 1, 2);
        for (int qualifier = 5; qualifier <= 6; qualifier++) {
            c.action(0, qualifier, qualifier - 5, 0);
            c.action(1, qualifier, qualifier - 3, 0);
        }
        c.action(1, 2, 5, 0);
        c.start(true);
        c.scan(0, 3);
        Check.due("step 0 begins", c.outputs(), 1);
        Check.due("through step 1 and back", c.scan(1, 3), 2);
        Check.due("active", c.active(), 1);
        Check.due("its time is 0", c.time(0), 0);
        Check.due("nothing began or ended", c.outputs(), 0);
        Check.due("nothing was stored on the way", c.stored(4), false);
    }
}
