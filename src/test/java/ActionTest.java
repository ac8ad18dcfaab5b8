/** Terms: ACTIONS; promises 14 and 15. */
public final class ActionTest {
    private static final int LONGEST = 1000000;
    private static final int DURATION = 10;
    private static final int STAY = 0;
    private static final int REST = 1;
    private static final int WORK = 2;
    private static final int RESET = 4;

    public static void main(String[] args) {
        whileActive();
        reset();
        set();
        limited();
        delayed();
        atBegin();
        atBeginOfTheFirstScan();
        atEnd();
        atEndOfTheFirstScan();
        setThenDelayed();
        delayedThenSet();
        setThenLimited();
        durationOfNothing();
        longestDuration();

        storedAtFirst();
        othersAreNeverStored();
        storedOnceKeepsItsAge();
        storedAnewHasAge0();
        agesGrowInEveryScan();
        resetIsStrongerThanStoring();
        resetOfAnotherVariable();
        manyResetsAtOnce();
        oneResetOfMany();
        variableOfMany();
        resetStepOnTheWay();
        endsOfScansCount();

        outputsOfTheLatestScan();
        outputsSinceStart();
        storedOfWhatIsNotThere();
        allVariablesAndActions();
        Check.end();
    }

    /**
     * Step 0 is at rest, step 1 works, step 2 resets; the input of a step's number leads there from the others. The
     * action under test is number 0, of step 1 and variable 4; action 1 resets that variable in step 2.
     */
    private static ForcedChart chart(int qualifier, int duration) {
        ForcedChart c = new ForcedChart();
        for (int i = 0; i < 3; i++) {
            c.step(0, i == 0);
            c.expression(0, i, 0);
        }
        for (int i = 0; i < 3; i++) {
            c.transition(1 << i, 1 << (i + 1) % 3, (i + 1) % 3);
            c.transition(1 << i, 1 << (i + 2) % 3, (i + 2) % 3);
        }
        c.action(1, qualifier, 4, duration);
        c.action(2, 1, 4, 0);
        c.start(false);
        return c;
    }

    private static void scan(ForcedChart c, int inputs, int dt, boolean on, boolean stored) {
        c.scan(inputs, dt);
        String at = "time " + c.time(1) + " of step 1, situation " + c.active() + ": ";
        Check.due(at + "outputs", c.outputs(), on ? 16 : 0);
        Check.due(at + "stored", c.stored(0), stored);
    }

    private static void whileActive() {
        Check.about("Terms: 0: if x");
        ForcedChart c = chart(0, DURATION);
        scan(c, STAY, 5, false, false);
        scan(c, WORK, 5, true, false);
        scan(c, STAY, 50, true, false);
        scan(c, REST, 0, false, false);
        scan(c, WORK, 0, true, false);
        scan(c, RESET, 0, false, false);
    }

    private static void reset() {
        Check.about("Terms: 1: never");
        ForcedChart c = chart(1, 0);
        scan(c, STAY, 5, false, false);
        scan(c, WORK, 5, false, false);
        scan(c, STAY, 5, false, false);
        scan(c, RESET, 5, false, false);
    }

    private static void set() {
        Check.about("Terms: 2: if stored");
        ForcedChart c = chart(2, DURATION);
        scan(c, STAY, 5, false, false);
        scan(c, WORK, 5, true, true);
        scan(c, REST, 5, true, true);
        scan(c, STAY, 500, true, true);
        scan(c, RESET, 5, false, false);
        scan(c, REST, 5, false, false);
        scan(c, WORK, 5, true, true);
        scan(c, RESET, 5, false, false);
    }

    private static void limited() {
        Check.about("Terms: 3: if x and e < duration");
        ForcedChart c = chart(3, DURATION);
        scan(c, STAY, 5, false, false);
        scan(c, WORK, 50, true, false);
        scan(c, STAY, 9, true, false);
        scan(c, STAY, 0, true, false);
        scan(c, STAY, 1, false, false);
        scan(c, STAY, 1, false, false);
        scan(c, REST, 0, false, false);
        scan(c, WORK, 0, true, false);
        scan(c, REST, 0, false, false);
        scan(c, WORK, 0, true, false);
        scan(c, RESET, 0, false, false);
    }

    private static void delayed() {
        Check.about("Terms: 4: if x and e >= duration");
        ForcedChart c = chart(4, DURATION);
        scan(c, STAY, 50, false, false);
        scan(c, WORK, 50, false, false);
        scan(c, STAY, 9, false, false);
        scan(c, STAY, 0, false, false);
        scan(c, STAY, 1, true, false);
        scan(c, STAY, 1, true, false);
        scan(c, REST, 0, false, false);
        scan(c, WORK, 50, false, false);
        scan(c, STAY, 50, true, false);
        scan(c, RESET, 50, false, false);
    }

    private static void atBegin() {
        Check.about("Terms: 5: if x and not w");
        ForcedChart c = chart(5, DURATION);
        scan(c, STAY, 5, false, false);
        scan(c, WORK, 5, true, false);
        scan(c, STAY, 0, false, false);
        scan(c, STAY, 5, false, false);
        scan(c, REST, 0, false, false);
        scan(c, WORK, 0, true, false);
        scan(c, REST, 0, false, false);
    }

    private static void atBeginOfTheFirstScan() {
        Check.about("Terms: w whether it was active at the end of the scan before (..; if there was none: not)");
        for (int settles = 0; settles < 2; settles++) {
            ForcedChart c = new ForcedChart();
            c.step(0, true);
            c.action(0, 5, 4, 0);
            for (int run = 0; run < 2; run++) {
                c.start(settles == 1);
                c.scan(0, -1);
                scan(c, STAY, 5, true, false);
                scan(c, STAY, 5, false, false);
                c.stop();
            }
        }
    }

    private static void atEnd() {
        Check.about("Terms: 6: if w and not x");
        ForcedChart c = chart(6, DURATION);
        scan(c, STAY, 5, false, false);
        scan(c, WORK, 5, false, false);
        scan(c, STAY, 5, false, false);
        scan(c, REST, 0, true, false);
        scan(c, STAY, 0, false, false);
        scan(c, WORK, 5, false, false);
        scan(c, REST, 5, true, false);
        scan(c, WORK, 5, false, false);
        scan(c, RESET, 0, false, false);
        scan(c, REST, 0, false, false);
    }

    private static void atEndOfTheFirstScan() {
        Check.about("Terms: w whether it was active at the end of the scan before (..; if there was none: not)");
        ForcedChart c = chart(0, 0);
        c.stop();
        c.action(0, 6, 3, 0);
        for (int run = 0; run < 2; run++) {
            c.start(run == 1);
            c.scan(WORK, 0);
            Check.due("step 0 ends in the first scan", c.outputs(), 16);
            c.scan(REST, 0);
            Check.due("step 0 is active", c.outputs(), 0);
            c.scan(WORK, 0);
            Check.due("step 0 ends in a later one", c.outputs(), 8 | 16);
            c.stop();
        }
    }

    private static void setThenDelayed() {
        Check.about("Terms: 7: if stored and its age >= duration");
        ForcedChart c = chart(7, DURATION);
        scan(c, STAY, 50, false, false);
        scan(c, WORK, 50, false, true);
        scan(c, REST, 4, false, true);
        scan(c, WORK, 5, false, true);
        scan(c, STAY, 0, false, true);
        scan(c, STAY, 1, true, true);
        scan(c, REST, 1, true, true);
        scan(c, RESET, 1, false, false);
        scan(c, REST, 50, false, false);
    }

    private static void delayedThenSet() {
        Check.about("Terms: With qualifier 8: .. if x and e >= duration, it is stored; 8: if stored");
        ForcedChart c = chart(8, DURATION);
        scan(c, STAY, 50, false, false);
        scan(c, WORK, 50, false, false);
        scan(c, STAY, 9, false, false);
        scan(c, REST, 9, false, false);
        scan(c, WORK, 9, false, false);
        scan(c, STAY, 9, false, false);
        scan(c, STAY, 1, true, true);
        scan(c, REST, 1, true, true);
        scan(c, STAY, 1, true, true);
        scan(c, RESET, 1, false, false);
        scan(c, WORK, 50, false, false);
        scan(c, STAY, 11, true, true);
    }

    private static void setThenLimited() {
        Check.about("Terms: 9: if stored and its age < duration");
        ForcedChart c = chart(9, DURATION);
        scan(c, STAY, 50, false, false);
        scan(c, WORK, 50, true, true);
        scan(c, REST, 5, true, true);
        scan(c, STAY, 4, true, true);
        scan(c, STAY, 0, true, true);
        scan(c, STAY, 1, false, true);
        scan(c, WORK, 1, false, true);
        scan(c, REST, 1, false, true);
        scan(c, RESET, 1, false, false);
        scan(c, REST, 1, false, false);
    }

    private static ForcedChart allQualifiers(int duration) {
        ForcedChart c = new ForcedChart();
        c.step(0, true);
        for (int qualifier = 2; qualifier <= 9; qualifier++) {
            c.action(0, qualifier, qualifier - 2, duration);
        }
        c.start(false);
        return c;
    }

    private static void durationOfNothing() {
        Check.about("Promise 6: duration .. 0 .. 1000000");
        ForcedChart c = allQualifiers(0);
        c.scan(0, 0);
        Check.due("2, 4, 5, 7 and 8 are on at once", c.outputs(), 1 | 4 | 8 | 32 | 64);
        c.scan(0, 0);
        Check.due("2, 4, 7 and 8 stay on", c.outputs(), 1 | 4 | 32 | 64);
        Check.due("8 is stored", c.stored(6), true);
        Check.due("9 is stored, though never on", c.stored(7), true);
    }

    private static void longestDuration() {
        Check.about("Promise 6: duration .. 0 .. 1000000");
        ForcedChart c = allQualifiers(LONGEST);
        c.scan(0, 0);
        Check.due("2, 3, 5 and 9 are on at once", c.outputs(), 1 | 2 | 8 | 128);
        c.scan(0, LONGEST - 1);
        Check.due("999999: 2, 3 and 9", c.outputs(), 1 | 2 | 128);
        Check.due("999999: 8 is not stored", c.stored(6), false);
        c.scan(0, 1);
        Check.due("1000000: 2, 4, 7 and 8", c.outputs(), 1 | 4 | 32 | 64);
        c.scan(0, LONGEST);
        Check.due("2000000: 2, 4, 7 and 8", c.outputs(), 1 | 4 | 32 | 64);
    }

    private static void storedAtFirst() {
        Check.about("Terms: An action may be STORED (at first it is not).");
        for (int qualifier = 0; qualifier <= 9; qualifier++) {
            ForcedChart c = new ForcedChart();
            c.step(0, true);
            c.action(0, qualifier, 4, 0);
            Check.due("before start, qualifier " + qualifier, c.stored(0), false);
            c.start(false);
            Check.due("after start, qualifier " + qualifier, c.stored(0), false);
            c.scan(0, -1);
            Check.due("after a refused scan, qualifier " + qualifier, c.stored(0), false);
        }
    }

    private static void othersAreNeverStored() {
        Check.about("Terms: Others are never stored.");
        ForcedChart c = new ForcedChart();
        c.step(0, true);
        for (int qualifier = 0; qualifier <= 9; qualifier++) {
            c.action(0, qualifier, qualifier == 1 ? 7 : qualifier / 2, 1);
        }
        c.start(false);
        for (int i = 0; i < 3; i++) {
            c.scan(0, i);
            for (int action = 0; action <= 9; action++) {
                boolean stores = action == 2 || action == 7 || action == 9 || action == 8 && i > 0;
                Check.due("stored(" + action + "), scan " + i, c.stored(action), stores);
            }
        }
    }

    private static void storedOnceKeepsItsAge() {
        Check.about("Terms: if x and it is not stored, it becomes stored with AGE 0");
        for (int qualifier = 7; qualifier <= 9; qualifier += 2) {
            boolean delays = qualifier == 7;
            ForcedChart c = chart(qualifier, DURATION);
            scan(c, WORK, 50, !delays, true);
            scan(c, STAY, 4, !delays, true);
            scan(c, REST, 3, !delays, true);
            scan(c, WORK, 2, !delays, true);
            scan(c, STAY, 1, delays, true);
        }
    }

    private static void storedAnewHasAge0() {
        Check.about("Terms: if r, it is stored no more; otherwise, if x and it is not stored, it becomes stored with "
                + "AGE 0");
        for (int qualifier = 7; qualifier <= 9; qualifier += 2) {
            boolean delays = qualifier == 7;
            ForcedChart c = chart(qualifier, DURATION);
            scan(c, WORK, 50, !delays, true);
            scan(c, STAY, 10, delays, true);
            scan(c, RESET, 5, false, false);
            scan(c, WORK, 5, !delays, true);
            scan(c, STAY, 9, !delays, true);
            scan(c, STAY, 1, delays, true);
        }
    }

    private static void agesGrowInEveryScan() {
        Check.about("Terms: The time dt is added to .. the AGE of every stored action.");
        for (int qualifier = 7; qualifier <= 9; qualifier += 2) {
            boolean delays = qualifier == 7;
            ForcedChart c = chart(qualifier, LONGEST);
            scan(c, WORK, LONGEST, !delays, true);
            scan(c, REST, LONGEST - 2, !delays, true);
            scan(c, STAY, 1, !delays, true);
            Check.refused("scan", c.scan(STAY, LONGEST + 1));
            scan(c, STAY, 0, !delays, true);
            scan(c, STAY, 1, delays, true);
            scan(c, STAY, LONGEST, delays, true);
        }
    }

    private static void resetIsStrongerThanStoring() {
        Check.about("Terms: if r, it is stored no more; A variable is on if an action of it is on and r .. is "
                + "false");
        for (int qualifier = 0; qualifier <= 9; qualifier++) {
            for (int first = 0; first < 2; first++) {
                ForcedChart c = new ForcedChart();
                Charts.steps(c, 0, 1, 1);
                c.action(0, first == 0 ? qualifier : 1, 4, 0);
                c.action(0, first == 0 ? 1 : qualifier, 4, 0);
                c.start(false);
                for (int i = 0; i < 2; i++) {
                    c.scan(0, 1);
                    Check.due("outputs, qualifier " + qualifier, c.outputs(), 0);
                    Check.due("stored, qualifier " + qualifier, c.stored(first), false);
                }
            }
        }
    }

    private static void resetOfAnotherVariable() {
        Check.about("Terms: r be whether an action of the same variable with qualifier 1 has an active step");
        for (int variable = 0; variable < 8; variable++) {
            ForcedChart c = new ForcedChart();
            Charts.steps(c, 0, 2, 1);
            for (int i = 0; i < 8; i++) {
                c.action(0, 2, i, 0);
            }
            c.action(1, 1, (variable + 1) % 8, 0);
            c.action(0, 1, variable, 0);
            c.start(false);
            c.scan(0, 0);
            Check.due("all but " + variable, c.outputs(), 255 - (1 << variable));
            for (int i = 0; i < 8; i++) {
                Check.due("stored(" + i + ")", c.stored(i), i != variable);
            }
        }
    }

    private static void manyResetsAtOnce() {
        Check.about("Terms: r be whether an action of the same variable with qualifier 1 has an active step");
        ForcedChart c = new ForcedChart();
        Charts.steps(c, 0, 2, 1);
        c.transition(1, 2, c.expression(0, 0, 0));
        for (int variable = 0; variable < 4; variable++) {
            c.action(1, 1, variable, 0);
            c.action(0, 2, variable, 0);
        }
        c.action(0, 2, 7, 0);
        c.start(false);
        c.scan(0, 0);
        Check.due("all are stored", c.outputs(), 15 | 128);
        c.scan(1, 0);
        Check.due("all but one are reset", c.outputs(), 128);
        for (int action = 0; action < 9; action++) {
            Check.due("stored(" + action + ")", c.stored(action), action == 8);
        }
    }

    private static void oneResetOfMany() {
        Check.about("Terms: r be whether an action of the same variable with qualifier 1 has an active step");
        ForcedChart c = chart(2, 0);
        c.stop();
        c.action(0, 1, 4, LONGEST);
        c.start(false);
        scan(c, STAY, 0, false, false);
        scan(c, WORK, 0, true, true);
        scan(c, RESET, 0, false, false);
        scan(c, WORK, 0, true, true);
        scan(c, REST, 0, false, false);
    }

    private static void variableOfMany() {
        Check.about("Terms: A variable is on if an action of it is on and r (of its actions) is false.");
        ForcedChart c = new ForcedChart();
        Charts.steps(c, 0, 1, 1);
        Charts.steps(c, 1, 2, 1);
        c.transition(2, 4, c.expression(0, 0, 0));
        c.transition(4, 2, c.expression(0, 1, 0));
        c.action(0, 0, 0, 0);
        c.action(2, 1, 0, 0);
        c.action(0, 4, 0, DURATION);
        c.action(2, 0, 1, 0);
        c.action(1, 0, 1, 0);
        c.action(0, 3, 2, 1);
        c.start(false);
        c.scan(0, 0);
        Check.due("one of two is on, the first or the last", c.outputs(), 1 | 2 | 4);
        c.scan(0, DURATION);
        Check.due("both of variable 0, none of variable 2", c.outputs(), 1 | 2);
        c.scan(1, 0);
        Check.due("variable 0 is reset", c.outputs(), 2);
        c.scan(2, 0);
        Check.due("the reset is over", c.outputs(), 1 | 2);
    }

    /** A step that resets in the midst of a settling scan, but is not active at its end. */
    private static void resetStepOnTheWay() {
        Check.about("Terms: At 4. let x be whether the step is active then .. r be whether an action .. has an active "
                + "step");
        ForcedChart c = Charts.withTrue();
        Charts.steps(c, 0, 3, 1);
        c.transition(1, 2, Charts.INPUT_0);
        c.transition(2, 4, Charts.TRUE);
        c.action(0, 2, 0, 0);
        c.action(1, 1, 0, 0);
        c.action(1, 2, 1, 0);
        c.start(true);
        c.scan(0, 0);
        Check.due("stored", c.outputs(), 1);
        Check.due("two evolutions", c.scan(1, 0), 2);
        Check.due("neither reset nor stored on the way", c.outputs(), 1);
        Check.due("stored(2)", c.stored(2), false);
    }

    /** A step that ends and begins in one settling scan. */
    private static void endsOfScansCount() {
        Check.about("Terms: At 4. let x be whether the step is active then, w whether it was active at the end of the "
                + "scan before .., e its time");
        ForcedChart c = Charts.withTrue();
        Charts.steps(c, 0, 2, 1);
        c.transition(1, 2, c.expression(1, 0, 0));
        c.transition(2, 1, Charts.TRUE);
        for (int step = 0; step < 2; step++) {
            c.action(step, 5, 3 * step, 0);
            c.action(step, 6, 3 * step + 1, 0);
        }
        c.action(0, 4, 2, 3);
        c.start(true);
        c.scan(0, 3);
        Check.due("step 0 begins, its time is 3", c.outputs(), 1 | 4);
        Check.due("through step 1 and back", c.scan(1, 3), 2);
        Check.due("nothing began or ended, the time of step 0 is 0", c.outputs(), 0);
        c.scan(1, 3);
        Check.due("its time is 3", c.outputs(), 4);
    }

    private static void outputsOfTheLatestScan() {
        Check.about("Promise 14: at the end of the latest scan that was neither refused nor unstable");
        ForcedChart c = chart(0, 0);
        c.stop();
        c.start(true);
        c.scan(WORK, 0);
        Check.due("outputs", c.outputs(), 16);
        Check.refused("dt -1", c.scan(REST, -1));
        Check.due("after a refused scan", c.outputs(), 16);
        Check.refused("dt 1000001", c.scan(REST, LONGEST + 1));
        Check.due("after a refused scan", c.outputs(), 16);
        Check.due("unstable", c.scan(REST | WORK, 0), ForcedChart.UNSTABLE);
        Check.due("after an unstable scan", c.outputs(), 16);
        c.scan(REST, 0);
        Check.due("after the next scan", c.outputs(), 0);
        Check.due("unstable", c.scan(REST | WORK, 0), ForcedChart.UNSTABLE);
        Check.due("after an unstable scan", c.outputs(), 0);
    }

    private static void outputsSinceStart() {
        Check.about("Promise 14: 0 if there was none since start()");
        ForcedChart c = new ForcedChart();
        Charts.steps(c, 0, 1, 1);
        c.transition(1, 1, c.expression(0, 0, 0));
        c.action(0, 0, 7, 0);
        Check.due("before start", c.outputs(), 0);
        for (int run = 0; run < 2; run++) {
            c.start(true);
            Check.due("after start", c.outputs(), 0);
            Check.refused("dt -1", c.scan(0, -1));
            Check.due("after a refused scan", c.outputs(), 0);
            Check.due("unstable", c.scan(1, 0), ForcedChart.UNSTABLE);
            Check.due("after an unstable scan", c.outputs(), 0);
            c.scan(0, 0);
            Check.due("after a scan", c.outputs(), 128);
            c.stop();
            Check.due("after stop", c.outputs(), 0);
        }
    }

    private static void storedOfWhatIsNotThere() {
        Check.about("Promise 15: false if there is no such action");
        ForcedChart c = chart(2, 0);
        c.scan(WORK, 0);
        Check.due("stored(0)", c.stored(0), true);
        for (int action : new int[] {-1, 1, 2, 11, 12, 32, -32, Integer.MIN_VALUE, Integer.MAX_VALUE}) {
            Check.due("stored(" + action + ")", c.stored(action), false);
        }
        c.stop();
        Check.due("stored(0) after stop", c.stored(0), false);
    }

    private static void allVariablesAndActions() {
        Check.about("Promise 15: Whether an action is stored; Terms: ACTIONS 0, 1, .. (at most 12)");
        ForcedChart c = new ForcedChart();
        Charts.steps(c, 2, 2, 1);
        c.transition(1, 2, c.expression(0, 0, 0));
        for (int action = 0; action < 12; action++) {
            c.action(action % 2, 2, action % 8, 0);
        }
        c.start(false);
        c.scan(0, 0);
        Check.due("the actions of step 0", c.outputs(), 0x55);
        for (int action = 0; action < 12; action++) {
            Check.due("stored(" + action + ")", c.stored(action), action % 2 == 0);
        }
        c.scan(1, 0);
        Check.due("all", c.outputs(), 255);
        for (int action = 0; action < 12; action++) {
            Check.due("stored(" + action + ")", c.stored(action), true);
        }
        Check.due("stored(12)", c.stored(12), false);
    }
}
