/** Terms: A SCAN of a chart that settles; promises 10, 18 and 19. */
public final class SettleTest {
    private static final int UNSTABLE = ForcedChart.UNSTABLE;

    public static void main(String[] args) {
        untilTheNextWouldBeIdle();
        atRestFromTheBegin();
        edgesForTheFirstEvolutionOnly();
        firstEvolutionMayBeTheOneThatIsNotMade();
        newStepsHaveNoTime();
        timeIsAddedOnce();
        loopWithoutChange();
        restAfterMany();
        restAfterManyMore();

        unstableAsFirstScan();
        unstableChangesNoTimeAndNoSituation();
        unstableChangesNoInput();
        unstableChangesNoAction();
        unstableChangesNoStepBefore();

        leadOfTheLatestScan();
        leadOfWhatIsRefused();
        leadWithoutSettling();
        leadIsTheLeast();
        leadBySituationAndTimes();
        periodIsTheLeast();
        periodOfMany();
        leadOfMany();
        ordersBringRest();
        ordersBringNone();
        Check.end();
    }

    private static void untilTheNextWouldBeIdle() {
        Check.about("Terms: If it settles, there are evolutions one after the other until the next one would be idle; "
                + "Promise 10: Answers how many of its evolutions were not idle");
        for (int last = 1; last <= 7; last++) {
            ForcedChart c = Charts.withTrue();
            Charts.steps(c, 0, 8, 1);
            for (int i = 0; i < last; i++) {
                c.transition(1 << i, 2 << i, Charts.INPUT_0);
            }
            c.start(true);
            Check.due("at rest", c.scan(0, 5), 0);
            Check.due("a way of " + last, c.scan(1, 5), last);
            Check.due("active", c.active(), 1 << last);
            Check.due("time", c.time(last), 0);
            Check.due("cleared", c.cleared(), (1 << last) - 1);
            Check.due("evolutions", c.evolutions(), last);
            Check.due("lead", c.lead(), 0);
            Check.due("period", c.period(), 0);
            Check.due("at rest", c.scan(1, 5), 0);
        }
    }

    private static void atRestFromTheBegin() {
        Check.about("Terms: until the next one would be idle, and that one is not made");
        ForcedChart c = Charts.ring(2);
        c.start(true);
        Check.due("at rest", c.scan(0, 5), 0);
        Check.due("active", c.active(), 1);
        Check.due("the time passes", c.time(0), 5);
        Check.due("evolutions", c.evolutions(), 0);
        Check.due("cleared", c.cleared(), 0);
    }

    private static void edgesForTheFirstEvolutionOnly() {
        Check.about("Terms: only for the first one (made or not) inputs rise or fall, for all others none does");
        ForcedChart c = new ForcedChart();
        Charts.steps(c, 0, 4, 1);
        int rises = c.expression(1, 0, 0);
        int falls = c.expression(2, 0, 0);
        c.transition(1, 2, rises);
        c.transition(2, 4, rises);
        c.transition(4, 8, falls);
        c.transition(8, 1, falls);
        c.start(true);
        Check.due("rises once", c.scan(1, 0), 1);
        Check.due("active", c.active(), 2);
        Check.due("does not rise", c.scan(1, 0), 0);
        Check.due("falls for nothing", c.scan(0, 0), 0);
        Check.due("rises again", c.scan(1, 0), 1);
        Check.due("active", c.active(), 4);
        Check.due("falls once", c.scan(0, 0), 1);
        Check.due("active", c.active(), 8);
    }

    private static void firstEvolutionMayBeTheOneThatIsNotMade() {
        Check.about("Terms: only for the first one (made or not) inputs rise or fall");
        ForcedChart c = new ForcedChart();
        Charts.steps(c, 0, 3, 1);
        int rises = c.expression(1, 0, 0);
        int falls = c.expression(2, 0, 0);
        c.transition(1, 2, c.expression(5, rises, 0));
        c.transition(2, 4, c.expression(5, falls, 0));
        c.start(true);
        Check.due("the first would be idle, since input 0 rises", c.scan(1, 0), 0);
        Check.due("active", c.active(), 1);
        Check.due("it rises no more", c.scan(1, 0), 2);
        Check.due("active", c.active(), 4);
        c.stop();
        c.start(true);
        c.scan(1, 0);
        Check.due("it falls: the first evolution is made, then it falls no more", c.scan(0, 0), 2);
        Check.due("active", c.active(), 4);
    }

    private static void newStepsHaveNoTime() {
        Check.about("Terms: A step that becomes active has the TIME 0");
        ForcedChart c = new ForcedChart();
        Charts.steps(c, 0, 4, 1);
        c.transition(1, 2, c.expression(4, 0, 5));
        c.transition(2, 4, c.expression(4, 1, 0));
        c.transition(4, 8, c.expression(4, 2, 1));
        c.start(true);
        Check.due("too early", c.scan(0, 4), 0);
        Check.due("a time of 0 is at least 0, but not 1", c.scan(0, 1), 2);
        Check.due("active", c.active(), 4);
        Check.due("time(2)", c.time(2), 0);
        Check.due("a time of 1", c.scan(0, 1), 1);

        ForcedChart d = Charts.withTrue();
        Charts.steps(d, 0, 2, 1);
        d.transition(1, 2, d.expression(4, 0, 5));
        d.transition(2, 1, Charts.TRUE);
        d.start(true);
        Check.due("once round, and its time is 0", d.scan(0, 1000000), 2);
        Check.due("active", d.active(), 1);
        Check.due("time(0)", d.time(0), 0);
    }

    /** Step 0 goes its way in part 0; step 4 stays, or goes on as soon as its time is 6. */
    private static void timeIsAddedOnce() {
        Check.about("Terms: 1. The time dt is added to the time of every active step");
        ForcedChart c = Charts.withTrue();
        Charts.steps(c, 0, 4, 1);
        Charts.steps(c, 1, 2, 1);
        for (int i = 0; i < 3; i++) {
            c.transition(1 << i, 2 << i, Charts.INPUT_0);
        }
        c.transition(8, 1, c.expression(5, Charts.INPUT_0, 0));
        c.transition(16, 32, c.expression(4, 4, 6));
        c.start(true);
        Check.due("three evolutions", c.scan(1, 5), 3);
        Check.due("time of a step that stayed in all of them", c.time(4), 5);
        Check.due("time of the last one's step", c.time(3), 0);
        Check.due("active", c.active(), 8 | 16);
        Check.due("time is added before the first evolution", c.scan(0, 1), 1);
        Check.due("active", c.active(), 1 | 32);
    }

    private static void loopWithoutChange() {
        Check.about("Terms: An evolution is IDLE if it clears no transition and B is A. If there is no end to them, "
                + "the scan is UNSTABLE");
        ForcedChart c = new ForcedChart();
        Charts.steps(c, 0, 1, 1);
        c.transition(1, 1, c.expression(1, 0, 0));
        c.transition(1, 1, c.expression(0, 1, 0));
        c.start(true);
        Check.due("a loop on an edge ends", c.scan(1, 4), 1);
        Check.due("time", c.time(0), 4);
        Check.due("a loop without end", c.scan(2, 4), UNSTABLE);
        Check.due("lead", c.lead(), 1);
        Check.due("period", c.period(), 1);
        Check.due("time", c.time(0), 4);
    }

    /**
     * The steps count in binary, step 0 being the least digit, up to 255 and, if the count wraps, on from 1. Twelve
     * transitions do not suffice for a count without gaps: after 31, 63, .. two numbers are left out.
     */
    private static ForcedChart counter(int initial, boolean wraps) {
        ForcedChart c = Charts.withTrue();
        Charts.steps(c, 0, 8, initial);
        for (int digit = 1; digit < 8; digit++) {
            int isOff = c.expression(5, c.expression(3, digit, 0), 0);
            c.transition((1 << digit) - 1, digit < 5 ? 1 << digit : 1 << digit | 2, isOff);
        }
        int isEven = c.expression(5, c.expression(3, 0, 0), 0);
        for (int digit = 1; digit < 5; digit++) {
            c.transition(1 << digit, 1 << digit | 1, isEven);
        }
        if (wraps) {
            c.transition(255, 1, Charts.TRUE);
        }
        return c;
    }

    private static void restAfterMany() {
        Check.about("Terms: until the next one would be idle; If there is no end to them, the scan is UNSTABLE");
        for (int dt = 0; dt < 2; dt++) {
            ForcedChart c = counter(1, false);
            c.start(true);
            Check.due("254 numbers to go, less 7 times 2", c.scan(0, dt), 240);
            Check.due("active", c.active(), 255);
            Check.due("evolutions", c.evolutions(), 240);
            Check.due("cleared", c.cleared(), 2047);
            Check.due("lead", c.lead(), 0);
            Check.due("period", c.period(), 0);
            Check.due("at rest", c.scan(0, dt), 0);
        }
    }

    private static void restAfterManyMore() {
        Check.about("Terms: until the next one would be idle; If there is no end to them, the scan is UNSTABLE");
        ForcedChart c = Charts.AT_REST_AFTER_MANY.chart();
        c.start(true);
        Check.due("the times above 0 end one after the other", c.scan(0, 1), 464);
        Check.due("active", c.active(), 127);
        Check.due("evolutions", c.evolutions(), 464);
        Check.due("lead", c.lead(), 0);
        Check.due("at rest", c.scan(0, 0), 0);
        c.stop();
        c.start(true);
        Check.due("no time is above 0", c.scan(0, 0), 134);
        Check.due("active", c.active(), 127);
    }

    private static void unstableAsFirstScan() {
        Check.about("Terms: then it changes nothing at all; Promises 14, 16 and 17: 0 if there was none");
        ForcedChart c = Charts.ring(2);
        c.action(0, 0, 0, 0);
        c.action(0, 2, 1, 0);
        c.start(true);
        Check.due("unstable", c.scan(3, 6), UNSTABLE);
        Check.due("active", c.active(), 1);
        Check.due("time", c.time(0), 0);
        Check.due("outputs", c.outputs(), 0);
        Check.due("stored", c.stored(1), false);
        Check.due("evolutions", c.evolutions(), 0);
        Check.due("cleared", c.cleared(), 0);
    }

    private static void unstableChangesNoTimeAndNoSituation() {
        Check.about("Terms: (time, inputs, situation and actions are as before it)");
        ForcedChart c = Charts.ring(3);
        Charts.steps(c, 1, 1, 1);
        c.start(true);
        c.scan(1, 3);
        c.scan(0, 4);
        Check.due("unstable", c.scan(7, 1000), UNSTABLE);
        Check.due("active", c.active(), 2 | 8);
        Check.due("enabled", c.enabled(), 2);
        Check.due("time of a step that went round", c.time(1), 4);
        Check.due("time of a step that stayed", c.time(3), 7);
        Check.due("unstable again", c.scan(7, 1000), UNSTABLE);
        Check.due("at rest", c.scan(0, 1), 0);
        Check.due("time(1)", c.time(1), 5);
        Check.due("time(3)", c.time(3), 8);
    }

    private static void unstableChangesNoInput() {
        Check.about("Terms: (before the first scan all are off; unstable scans don't count)");
        ForcedChart c = Charts.withTrue();
        Charts.steps(c, 0, 2, 1);
        Charts.steps(c, 1, 2, 1);
        c.transition(1, 2, c.expression(1, 1, 0));
        c.transition(2, 1, c.expression(2, 1, 0));
        c.transition(4, 8, Charts.INPUT_0);
        c.transition(8, 4, Charts.INPUT_0);
        c.start(true);
        Check.due("unstable before the first scan that counts", c.scan(1 | 2, 0), UNSTABLE);
        Check.due("input 1 still rises", c.scan(2, 0), 1);
        Check.due("unstable", c.scan(1, 0), UNSTABLE);
        Check.due("input 1 did not fall: it does not rise", c.scan(2, 0), 0);
        Check.due("unstable", c.scan(1, 0), UNSTABLE);
        Check.due("input 1 still falls", c.scan(0, 0), 1);
        Check.due("unstable", c.scan(1 | 2, 0), UNSTABLE);
        Check.due("input 1 did not rise: it does not fall", c.scan(0, 0), 0);
        Check.due("active", c.active(), 1 | 4);
    }

    private static void unstableChangesNoAction() {
        Check.about("Terms: (time, inputs, situation and actions are as before it)");
        ForcedChart c = Charts.ring(3);
        c.action(0, 7, 0, 10);
        c.action(0, 9, 1, 10);
        c.action(1, 2, 2, 0);
        c.action(2, 1, 1, 0);
        c.action(1, 0, 3, 0);
        c.start(true);
        c.scan(0, 0);
        Check.due("outputs", c.outputs(), 2);
        Check.due("unstable", c.scan(7, 1000), UNSTABLE);
        Check.due("outputs", c.outputs(), 2);
        Check.due("stored(0)", c.stored(0), true);
        Check.due("a step on the way resets nothing", c.stored(1), true);
        Check.due("a step on the way stores nothing", c.stored(2), false);
        Check.due("at rest", c.scan(0, 9), 0);
        Check.due("no age grew", c.outputs(), 2);
        c.scan(0, 1);
        Check.due("an age of 10", c.outputs(), 1);
    }

    private static void unstableChangesNoStepBefore() {
        Check.about("Terms: w whether it was active at the end of the scan before (unstable scans do not count here "
                + "either; if there was none: not)");
        ForcedChart c = Charts.ring(3);
        for (int step = 0; step < 3; step++) {
            c.action(step, 5, step, 0);
            c.action(step, 6, step + 3, 0);
        }
        c.start(true);
        Check.due("unstable", c.scan(7, 0), UNSTABLE);
        c.scan(0, 0);
        Check.due("the first scan that counts: step 0 begins", c.outputs(), 1);
        Check.due("unstable", c.scan(7, 0), UNSTABLE);
        Check.due("outputs of the scan before", c.outputs(), 1);
        c.scan(0, 0);
        Check.due("nothing begins or ends", c.outputs(), 0);
        Check.due("unstable", c.scan(7, 0), UNSTABLE);
        c.scan(1, 0);
        Check.due("step 0 ends, step 1 begins", c.outputs(), 2 | 8);
    }

    private static void leadOfTheLatestScan() {
        Check.about("Promise 18: If the latest scan that was not refused was unstable: ..; else 0; "
                + "Promise 19: If lead() is not 0: ..; else 0");
        ForcedChart c = Charts.ring(4);
        c.start(true);
        Check.due("lead before a scan", c.lead(), 0);
        Check.due("period before a scan", c.period(), 0);
        Check.due("unstable", c.scan(15, 0), UNSTABLE);
        Check.due("lead", c.lead(), 1);
        Check.due("period", c.period(), 4);
        Check.due("at rest", c.scan(0, 0), 0);
        Check.due("lead after a scan at rest", c.lead(), 0);
        Check.due("period after a scan at rest", c.period(), 0);
        Check.due("unstable", c.scan(15, 0), UNSTABLE);
        Check.due("one evolution", c.scan(1, 0), 1);
        Check.due("lead after a scan of one evolution", c.lead(), 0);
        Check.due("period after a scan of one evolution", c.period(), 0);

        ForcedChart d = Charts.ring(3);
        d.transition(2, 2, d.expression(0, 5, 0));
        d.start(true);
        Check.due("unstable", d.scan(7, 1), UNSTABLE);
        Check.due("lead", d.lead(), 1);
        Check.due("period", d.period(), 3);
        Check.due("unstable in another way", d.scan(1 | 32, 1), UNSTABLE);
        Check.due("lead", d.lead(), 1);
        Check.due("period", d.period(), 1);
    }

    private static void leadOfWhatIsRefused() {
        Check.about("Promise 18: If the latest scan that was not refused was unstable");
        ForcedChart c = Charts.ring(3);
        c.start(true);
        c.scan(7, 0);
        Check.refused("dt -1", c.scan(0, -1));
        Check.refused("dt 1000001", c.scan(0, 1000001));
        Check.refused("step", c.step(0, true));
        Check.due("start", c.start(false), false);
        Check.due("lead", c.lead(), 1);
        Check.due("period", c.period(), 3);
        c.scan(0, 0);
        Check.refused("dt -1", c.scan(7, -1));
        Check.due("lead of the scan before", c.lead(), 0);
        Check.due("period of the scan before", c.period(), 0);
    }

    private static void leadWithoutSettling() {
        Check.about("Terms: If the chart does not settle, there is exactly one evolution.");
        ForcedChart c = Charts.ring(2);
        c.start(false);
        for (int i = 0; i < 5; i++) {
            Check.due("round", c.scan(3, 0), 1);
            Check.due("lead", c.lead(), 0);
            Check.due("period", c.period(), 0);
        }
    }

    private static void leadIsTheLeast() {
        Check.about("Promise 18: the least i >= 1 such that the situation and the times of all steps are after "
                + "evolution i as they are after a later evolution too");
        for (int way = 1; way <= 6; way++) {
            ForcedChart c = Charts.withTrue();
            Charts.steps(c, 0, 8, 1);
            for (int i = 0; i < way; i++) {
                c.transition(1 << i, 2 << i, i == 0 ? Charts.INPUT_0 : Charts.TRUE);
            }
            c.transition(1 << way, 2 << way, Charts.TRUE);
            c.transition(2 << way, 1 << way, Charts.TRUE);
            c.start(true);
            Check.due("unstable", c.scan(1, 1), UNSTABLE);
            Check.due("lead after a way of " + way, c.lead(), way);
            Check.due("period", c.period(), 2);
        }
        ForcedChart d = Charts.ring(2);
        d.start(true);
        d.scan(3, 0);
        Check.due("what is before evolution 1 does not count", d.lead(), 1);
        Check.due("period", d.period(), 2);
    }

    /** Part 0 goes round 0, 1, 2; part 1 leaves step 3 with step 2 and comes back with step 0. */
    private static void leadBySituationAndTimes() {
        Check.about("Promise 18: the situation and the times of all steps are after evolution i as they are after a "
                + "later evolution too");
        ForcedChart c = Charts.withTrue();
        Charts.steps(c, 0, 3, 1);
        Charts.steps(c, 1, 2, 1);
        c.transition(1, 2, Charts.INPUT_0);
        c.transition(2, 4, Charts.INPUT_0);
        c.transition(4, 1, Charts.INPUT_0);
        c.transition(8, 16, c.expression(3, 2, 0));
        c.transition(16, 8, c.expression(3, 0, 0));
        c.start(true);
        Check.due("unstable", c.scan(1, 0), UNSTABLE);
        Check.due("lead if all times are 0", c.lead(), 1);
        Check.due("period", c.period(), 3);
        Check.due("unstable", c.scan(1, 5), UNSTABLE);
        Check.due("lead if step 3 has a time at first", c.lead(), 3);
        Check.due("period", c.period(), 3);
        Check.due("at rest", c.scan(0, 5), 0);
        Check.due("unstable", c.scan(1, 0), UNSTABLE);
        Check.due("lead if it has it from the scan before", c.lead(), 3);
        Check.due("period", c.period(), 3);
        c.stop();
        c.start(true);
        Check.due("unstable", c.scan(1, 0), UNSTABLE);
        Check.due("lead if all times are 0 again", c.lead(), 1);

        // Input 3 lets step 3 go; in the unstable scan without it, step 3 stays and would have a time.
        ForcedChart d = Charts.ring(3);
        Charts.steps(d, 1, 2, 1);
        d.transition(8, 16, d.expression(6, d.expression(3, 2, 0), d.expression(0, 3, 0)));
        d.transition(16, 8, 0);
        d.start(true);
        Check.due("unstable", d.scan(7 | 8, 5), UNSTABLE);
        Check.due("lead if time passes", d.lead(), 3);
        Check.due("unstable", d.scan(7, 5), UNSTABLE);
        Check.due("lead if step 3 stays", d.lead(), 1);
        Check.due("unstable", d.scan(7 | 8, 0), UNSTABLE);
        Check.due("lead if no time passes, nor did in unstable scans", d.lead(), 1);

        ForcedChart e = Charts.ring(2);
        Charts.steps(e, 1, 1, 1);
        e.start(true);
        Check.due("unstable", e.scan(3, 5), UNSTABLE);
        Check.due("lead if a time stays above 0 for ever", e.lead(), 1);
        Check.due("period", e.period(), 2);
    }

    private static void periodIsTheLeast() {
        Check.about("Promise 19: the least n >= 1 such that situation and times are after evolution lead() + n as they "
                + "are after evolution lead()");
        for (int n = 1; n <= 8; n++) {
            ForcedChart c = Charts.ring(n);
            c.start(true);
            Check.due("unstable", c.scan(255, 1), UNSTABLE);
            Check.due("lead of a ring of " + n, c.lead(), 1);
            Check.due("period of a ring of " + n, c.period(), n);
        }
        ForcedChart d = Charts.withTrue();
        Charts.steps(d, 0, 3, 1);
        Charts.steps(d, 1, 5, 1);
        for (int i = 0; i < 8; i++) {
            int next = i < 3 ? (i + 1) % 3 : 3 + (i - 2) % 5;
            d.transition(1 << i, 1 << next, Charts.TRUE);
        }
        d.start(true);
        Check.due("unstable", d.scan(0, 0), UNSTABLE);
        Check.due("lead of two rings", d.lead(), 1);
        Check.due("period of rings of 3 and 5", d.period(), 15);
    }

    private static void periodOfMany() {
        Check.about("Promise 19: the least n >= 1");
        ForcedChart c = counter(1, true);
        c.start(true);
        for (int dt = 0; dt < 3; dt++) {
            Check.due("unstable", c.scan(0, dt), UNSTABLE);
            Check.due("lead", c.lead(), 1);
            Check.due("255 numbers, less 7 times 2", c.period(), 241);
        }
    }

    private static void leadOfMany() {
        Check.about("Promise 18: the least i >= 1 such that the situation and the times of all steps are ..; "
                + "Promise 19: the least n >= 1");
        checkMany(counter(129, true), 121, 241);
        checkMany(Charts.UNSTABLE_AFTER_MANY.chart(), 232, 238);
    }

    /** The lead is that of a scan in which the initial steps have a time; without one it is 1. */
    private static void checkMany(ForcedChart c, int lead, int period) {
        c.start(true);
        int initial = c.active();
        Check.due("unstable", c.scan(0, 0), UNSTABLE);
        Check.due("lead if all times are 0", c.lead(), 1);
        Check.due("period", c.period(), period);
        Check.due("unstable", c.scan(0, 1), UNSTABLE);
        Check.due("lead if times are above 0 for many evolutions", c.lead(), lead);
        Check.due("period", c.period(), period);
        Check.due("active", c.active(), initial);
        Check.due("time", c.time(7), 0);
    }

    private static void ordersBringRest() {
        Check.about("Terms: no transition of the part is CLEARED; until the next one would be idle");
        ForcedChart c = Charts.withTrue();
        Charts.steps(c, 0, 2, 1);
        Charts.steps(c, 1, 2, 1);
        c.transition(1, 2, Charts.INPUT_0);
        c.transition(4, 8, Charts.TRUE);
        c.transition(8, 4, Charts.TRUE);
        c.order(1, 1, 8);
        c.start(true);
        Check.due("unstable", c.scan(0, 1), UNSTABLE);
        Check.due("forced at once", c.scan(1, 1), 1);
        Check.due("active", c.active(), 2 | 8);
        Check.due("cleared", c.cleared(), 1);
        Check.due("at rest", c.scan(0, 1), 0);
        c.stop();
        c.order(0, 1, ForcedChart.FREEZE);
        c.start(true);
        Check.due("frozen", c.scan(0, 1), 0);
        Check.due("active", c.active(), 1 | 4);
    }

    /** The order forces step 3 as soon as step 1 is active; step 3 sends step 1 away, and all begins again. */
    private static void ordersBringNone() {
        Check.about("Terms: If there is no end to them, the scan is UNSTABLE");
        ForcedChart c = Charts.withTrue();
        Charts.steps(c, 0, 2, 1);
        Charts.steps(c, 1, 2, 1);
        int three = c.expression(3, 3, 0);
        c.transition(1, 2, c.expression(6, Charts.INPUT_0, c.expression(5, three, 0)));
        c.transition(2, 1, three);
        c.transition(8, 4, three);
        c.order(1, 1, 8);
        c.start(true);
        Check.due("unstable", c.scan(1, 1), UNSTABLE);
        Check.due("lead", c.lead(), 1);
        Check.due("period", c.period(), 2);
        Check.due("active", c.active(), 1 | 4);
    }
}
