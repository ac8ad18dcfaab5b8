/**
 * A chart of steps and transitions that runs scan by scan; actions follow the steps, and orders let
 * one part of the chart force another. Sets are bit masks throughout: member n is bit n.
 */
public final class ForcedChart {
    public static final int REFUSED = -2;
    public static final int UNSTABLE = -1;
    public static final int FREEZE = -1;

    private static final int PARTS = 3;
    private static final int MOST_STEPS = 8;
    private static final int MOST_EXPRESSIONS = 24;
    private static final int MOST_TRANSITIONS = 12;
    private static final int MOST_ORDERS = 4;
    private static final int MOST_ACTIONS = 12;
    private static final int LINES = 8;
    private static final int ALL_LINES = 255;
    private static final int LONGEST = 1000000;

    private final Steps steps;
    private final Expressions expressions;
    private final Transitions transitions;
    private final Orders orders;
    private final Actions actions;
    private final Trial trial;
    private final int[] times;

    private boolean running;
    private boolean settling;
    private int situation;
    private int situationAtLastScan;
    private int inputs;
    private int outputs;
    private int evolutions;
    private int cleared;
    private int lead;
    private int period;

    public ForcedChart() {
        steps = new Steps();
        expressions = new Expressions();
        transitions = new Transitions();
        orders = new Orders();
        actions = new Actions();
        trial = new Trial();
        times = new int[MOST_STEPS];
    }

    public int step(int part, boolean initial) {
        if (running || steps.count == MOST_STEPS || part < 0 || part >= PARTS) {
            return REFUSED;
        }
        return steps.add(part, initial);
    }

    public int expression(int kind, int a, int b) {
        if (running || expressions.count == MOST_EXPRESSIONS || !expressions.allow(kind, a, b, steps)) {
            return REFUSED;
        }
        return expressions.add(kind, a, b);
    }

    public int transition(int from, int to, int expression) {
        if (running || transitions.count == MOST_TRANSITIONS || from == 0 || to == 0) {
            return REFUSED;
        }
        int part = steps.partWithAll(from | to);
        if (part < 0 || !expressions.has(expression)) {
            return REFUSED;
        }
        return transitions.add(part, from, to, expression);
    }

    public int order(int step, int part, int fixed) {
        if (running || orders.count == MOST_ORDERS || !steps.has(step)) {
            return REFUSED;
        }
        if (part <= steps.partOf[step] || part >= PARTS) {
            return REFUSED;
        }
        if (fixed != FREEZE && (fixed & ~steps.inPart[part]) != 0) {
            return REFUSED;
        }
        return orders.add(step, part, fixed);
    }

    public int action(int step, int qualifier, int variable, int duration) {
        if (running || actions.count == MOST_ACTIONS || !steps.has(step)) {
            return REFUSED;
        }
        if (!Actions.isQualifier(qualifier) || !isLine(variable) || !isSpan(duration)) {
            return REFUSED;
        }
        return actions.add(step, qualifier, variable, duration);
    }

    public int unreached() {
        int reached = steps.initial;
        // A round that adds no step is the last that could; so as many rounds as steps are enough.
        for (int round = 0; round < MOST_STEPS; round++) {
            reached |= transitions.succeeding(transitions.enabledIn(reached)) | orders.fixedBy(reached);
        }
        return steps.all() & ~reached;
    }

    public boolean start(boolean settles) {
        if (running || steps.initial == 0) {
            return false;
        }
        forgetRun();
        running = true;
        settling = settles;
        situation = steps.initial;
        return true;
    }

    public void stop() {
        forgetRun();
        running = false;
    }

    public int scan(int inputs, int dt) {
        if (!running || !isSpan(dt)) {
            return REFUSED;
        }
        int given = inputs & ALL_LINES;
        trial.begin(situation, times, dt);
        trial.sense(this.inputs, given);
        boolean ends = comesToAnEnd();
        lead = trial.lead;
        period = trial.period;
        if (!ends) {
            return UNSTABLE;
        }
        this.inputs = given;
        keepTrial(dt);
        return evolutions;
    }

    public int active() {
        return situation;
    }

    public int time(int step) {
        return steps.has(step) ? times[step] : 0;
    }

    public int enabled() {
        return transitions.enabledIn(situation);
    }

    public int outputs() {
        return outputs;
    }

    public boolean stored(int action) {
        return actions.isStored(action);
    }

    public int evolutions() {
        return evolutions;
    }

    public int cleared() {
        return cleared;
    }

    public int lead() {
        return lead;
    }

    public int period() {
        return period;
    }

    private void forgetRun() {
        for (int step = 0; step < MOST_STEPS; step++) {
            times[step] = 0;
        }
        actions.forgetStored();
        situation = 0;
        situationAtLastScan = 0;
        inputs = 0;
        outputs = 0;
        evolutions = 0;
        cleared = 0;
        lead = 0;
        period = 0;
    }

    /** Makes the evolutions of the trial and answers whether they end. */
    private boolean comesToAnEnd() {
        if (!settling) {
            evolve();
            return true;
        }
        for (int number = 0; number <= Trial.MOST_STATES; number++) {
            if (!evolve()) {
                return true;
            }
            trial.endEdges();
            if (trial.findsCycle()) {
                return false;
            }
        }
        return false;
    }

    /** Makes the next evolution of the trial and answers whether it was not idle; an idle one changes nothing. */
    private boolean evolve() {
        int due = transitions.dueIn(trial.situation, expressions.trueIn(trial));
        int clearedNow = 0;
        int next = 0;
        for (int part = 0; part < PARTS; part++) {
            int own = trial.situation & steps.inPart[part];
            int order = orders.rulingOver(part, next);
            if (order != Orders.NONE) {
                next |= orders.forcedSteps(order, own);
            } else {
                int dueHere = due & transitions.inPart[part];
                int clearedHere = settling ? dueHere : transitions.withoutRivals(dueHere);
                next |= own & ~transitions.preceding(clearedHere) | transitions.succeeding(clearedHere);
                clearedNow |= clearedHere;
            }
        }
        return trial.moveTo(next, clearedNow);
    }

    private void keepTrial(int dt) {
        situation = trial.situation;
        for (int step = 0; step < MOST_STEPS; step++) {
            times[step] = trial.timeOf(step);
        }
        evolutions = trial.made;
        cleared = trial.cleared;
        actions.grow(dt);
        outputs = actions.workOut(situation, situationAtLastScan, times);
        situationAtLastScan = situation;
    }

    private static boolean isIn(int member, int set) {
        return (set >> member & 1) != 0;
    }

    private static boolean isLine(int number) {
        return number >= 0 && number < LINES;
    }

    private static boolean isSpan(int length) {
        return length >= 0 && length <= LONGEST;
    }

    private static final class Steps {
        private final int[] partOf = new int[MOST_STEPS];
        private final int[] inPart = new int[PARTS];
        private int count;
        private int initial;

        int add(int part, boolean isInitial) {
            int step = count++;
            partOf[step] = part;
            inPart[part] |= 1 << step;
            if (isInitial) {
                initial |= 1 << step;
            }
            return step;
        }

        boolean has(int step) {
            return step >= 0 && step < count;
        }

        int all() {
            return (1 << count) - 1;
        }

        /** The part to which all steps of the set belong; -1 if there is none. */
        int partWithAll(int set) {
            for (int part = 0; part < PARTS; part++) {
                if ((set & ~inPart[part]) == 0) {
                    return part;
                }
            }
            return -1;
        }
    }

    private static final class Expressions {
        private static final int IS_ON = 0;
        private static final int RISES = 1;
        private static final int FALLS = 2;
        private static final int IS_ACTIVE = 3;
        private static final int HAS_LASTED = 4;
        private static final int NOT = 5;
        private static final int BOTH = 6;
        private static final int EITHER = 7;
        private static final int DEEPEST = 4;

        private final int[] kinds = new int[MOST_EXPRESSIONS];
        private final int[] firsts = new int[MOST_EXPRESSIONS];
        private final int[] seconds = new int[MOST_EXPRESSIONS];
        private final int[] depths = new int[MOST_EXPRESSIONS];
        private int count;

        boolean has(int expression) {
            return expression >= 0 && expression < count;
        }

        boolean allow(int kind, int a, int b, Steps steps) {
            switch (kind) {
                case IS_ON:
                case RISES:
                case FALLS:
                    return isLine(a);
                case IS_ACTIVE:
                    return steps.has(a);
                case HAS_LASTED:
                    return steps.has(a) && isSpan(b);
                case NOT:
                    return canBePart(a);
                case BOTH:
                case EITHER:
                    return canBePart(a) && canBePart(b);
                default:
                    return false;
            }
        }

        private boolean canBePart(int expression) {
            return has(expression) && depths[expression] < DEEPEST;
        }

        int add(int kind, int a, int b) {
            int expression = count++;
            kinds[expression] = kind;
            firsts[expression] = a;
            seconds[expression] = b;
            depths[expression] = depthFor(kind, a, b);
            return expression;
        }

        private int depthFor(int kind, int a, int b) {
            switch (kind) {
                case NOT:
                    return depths[a] + 1;
                case BOTH:
                case EITHER:
                    return Math.max(depths[a], depths[b]) + 1;
                default:
                    return 0;
            }
        }

        /** The set of the true expressions. Each is made of earlier ones only, so one pass is enough. */
        int trueIn(Trial trial) {
            int truths = 0;
            for (int expression = 0; expression < count; expression++) {
                if (holds(expression, truths, trial)) {
                    truths |= 1 << expression;
                }
            }
            return truths;
        }

        private boolean holds(int expression, int truths, Trial trial) {
            int a = firsts[expression];
            int b = seconds[expression];
            switch (kinds[expression]) {
                case IS_ON:
                    return isIn(a, trial.inputs);
                case RISES:
                    return isIn(a, trial.rising);
                case FALLS:
                    return isIn(a, trial.falling);
                case IS_ACTIVE:
                    return isIn(a, trial.situation);
                case HAS_LASTED:
                    return isIn(a, trial.situation) && trial.timeOf(a) >= b;
                case NOT:
                    return !isIn(a, truths);
                case BOTH:
                    return isIn(a, truths) && isIn(b, truths);
                default:
                    return isIn(a, truths) || isIn(b, truths);
            }
        }
    }

    private static final class Transitions {
        private final int[] befores = new int[MOST_TRANSITIONS];
        private final int[] afters = new int[MOST_TRANSITIONS];
        private final int[] conditions = new int[MOST_TRANSITIONS];
        private final int[] inPart = new int[PARTS];
        private int count;

        int add(int part, int before, int after, int condition) {
            int transition = count++;
            befores[transition] = before;
            afters[transition] = after;
            conditions[transition] = condition;
            inPart[part] |= 1 << transition;
            return transition;
        }

        int enabledIn(int situation) {
            int set = 0;
            for (int transition = 0; transition < count; transition++) {
                if ((befores[transition] & ~situation) == 0) {
                    set |= 1 << transition;
                }
            }
            return set;
        }

        int dueIn(int situation, int truths) {
            int set = enabledIn(situation);
            for (int transition = 0; transition < count; transition++) {
                if (!isIn(conditions[transition], truths)) {
                    set &= ~(1 << transition);
                }
            }
            return set;
        }

        /** Those of the due transitions that are left when each keeps its preceding steps from all later ones. */
        int withoutRivals(int due) {
            int set = 0;
            int taken = 0;
            for (int transition = 0; transition < count; transition++) {
                if (isIn(transition, due) && (befores[transition] & taken) == 0) {
                    set |= 1 << transition;
                    taken |= befores[transition];
                }
            }
            return set;
        }

        int preceding(int set) {
            return union(befores, set);
        }

        int succeeding(int set) {
            return union(afters, set);
        }

        private int union(int[] ends, int set) {
            int union = 0;
            for (int transition = 0; transition < count; transition++) {
                if (isIn(transition, set)) {
                    union |= ends[transition];
                }
            }
            return union;
        }
    }

    private static final class Orders {
        private static final int NONE = -1;

        private final int[] givers = new int[MOST_ORDERS];
        private final int[] parts = new int[MOST_ORDERS];
        private final int[] fixedSets = new int[MOST_ORDERS];
        private int count;

        int add(int step, int part, int fixed) {
            int order = count++;
            givers[order] = step;
            parts[order] = part;
            fixedSets[order] = fixed;
            return order;
        }

        int rulingOver(int part, int situation) {
            for (int order = 0; order < count; order++) {
                if (parts[order] == part && isIn(givers[order], situation)) {
                    return order;
                }
            }
            return NONE;
        }

        int forcedSteps(int order, int frozen) {
            return fixedSets[order] == FREEZE ? frozen : fixedSets[order];
        }

        /** All steps in the fixed sets of the orders whose step is in the set. */
        int fixedBy(int set) {
            int union = 0;
            for (int order = 0; order < count; order++) {
                if (isIn(givers[order], set)) {
                    union |= forcedSteps(order, 0);
                }
            }
            return union;
        }
    }

    private static final class Actions {
        private static final int WHILE_ACTIVE = 0;
        private static final int RESET = 1;
        private static final int SET = 2;
        private static final int LIMITED = 3;
        private static final int DELAYED = 4;
        private static final int AT_BEGIN = 5;
        private static final int AT_END = 6;
        private static final int SET_THEN_DELAYED = 7;
        private static final int DELAYED_THEN_SET = 8;
        private static final int SET_THEN_LIMITED = 9;

        private final int[] owners = new int[MOST_ACTIONS];
        private final int[] qualifiers = new int[MOST_ACTIONS];
        private final int[] variables = new int[MOST_ACTIONS];
        private final int[] durations = new int[MOST_ACTIONS];
        private final int[] ages = new int[MOST_ACTIONS];
        private int count;
        private int storedSet;

        static boolean isQualifier(int number) {
            return number >= WHILE_ACTIVE && number <= SET_THEN_LIMITED;
        }

        int add(int step, int qualifier, int variable, int duration) {
            int action = count++;
            owners[action] = step;
            qualifiers[action] = qualifier;
            variables[action] = variable;
            durations[action] = duration;
            return action;
        }

        boolean isStored(int action) {
            return action >= 0 && action < count && isIn(action, storedSet);
        }

        void forgetStored() {
            storedSet = 0;
        }

        void grow(int dt) {
            for (int action = 0; action < count; action++) {
                if (isIn(action, storedSet)) {
                    ages[action] += dt;
                }
            }
        }

        /** Brings the stored actions up to date and answers the set of the variables that are on. */
        int workOut(int situation, int situationBefore, int[] times) {
            int reset = resetVariables(situation);
            int on = 0;
            for (int action = 0; action < count; action++) {
                int owner = owners[action];
                boolean is = isIn(owner, situation);
                boolean was = isIn(owner, situationBefore);
                store(action, isIn(variables[action], reset), is, times[owner]);
                if (isOn(action, is, was, times[owner])) {
                    on |= 1 << variables[action];
                }
            }
            return on & ~reset;
        }

        private int resetVariables(int situation) {
            int set = 0;
            for (int action = 0; action < count; action++) {
                if (qualifiers[action] == RESET && isIn(owners[action], situation)) {
                    set |= 1 << variables[action];
                }
            }
            return set;
        }

        private void store(int action, boolean reset, boolean is, int time) {
            if (reset) {
                storedSet &= ~(1 << action);
            } else if (is && !isIn(action, storedSet) && storesAt(action, time)) {
                storedSet |= 1 << action;
                ages[action] = 0;
            }
        }

        private boolean storesAt(int action, int time) {
            switch (qualifiers[action]) {
                case SET:
                case SET_THEN_DELAYED:
                case SET_THEN_LIMITED:
                    return true;
                case DELAYED_THEN_SET:
                    return time >= durations[action];
                default:
                    return false;
            }
        }

        private boolean isOn(int action, boolean is, boolean was, int time) {
            boolean kept = isIn(action, storedSet);
            int duration = durations[action];
            switch (qualifiers[action]) {
                case WHILE_ACTIVE:
                    return is;
                case SET:
                case DELAYED_THEN_SET:
                    return kept;
                case LIMITED:
                    return is && time < duration;
                case DELAYED:
                    return is && time >= duration;
                case AT_BEGIN:
                    return is && !was;
                case AT_END:
                    return was && !is;
                case SET_THEN_DELAYED:
                    return kept && ages[action] >= duration;
                case SET_THEN_LIMITED:
                    return kept && ages[action] < duration;
                default:
                    return false;
            }
        }
    }

    /** A scan at work: it has a copy of all that it changes, since an unstable one must leave no trace. */
    private static final class Trial {
        /**
         * No scan makes more different states. Time is added once, before the evolutions; in these a time stays while
         * its step stays active, and is 0 once the step was away. So the set of the times above 0 only shrinks, and
         * while 8 - k of them are left, only the other k steps may be active or not: 2 to the power of k situations at
         * most, and 1 + 2 + .. + 256 over all k.
         */
        private static final int MOST_STATES = 511;

        private final int[] timesAtBegin = new int[MOST_STEPS];
        private final int[] states = new int[MOST_STATES + 2];
        private int inputs;
        private int rising;
        private int falling;
        private int situation;
        private int timed;
        private int cleared;
        private int made;
        private int lead;
        private int period;

        void begin(int oldSituation, int[] oldTimes, int dt) {
            situation = oldSituation;
            timed = 0;
            for (int step = 0; step < MOST_STEPS; step++) {
                timesAtBegin[step] = oldTimes[step] + dt;
                if (isIn(step, situation) && timesAtBegin[step] != 0) {
                    timed |= 1 << step;
                }
            }
            cleared = 0;
            made = 0;
            lead = 0;
            period = 0;
        }

        void sense(int oldInputs, int newInputs) {
            inputs = newInputs;
            rising = newInputs & ~oldInputs;
            falling = oldInputs & ~newInputs;
        }

        int timeOf(int step) {
            return isIn(step, timed) ? timesAtBegin[step] : 0;
        }

        void endEdges() {
            rising = 0;
            falling = 0;
        }

        boolean moveTo(int next, int clearedNow) {
            if (clearedNow == 0 && next == situation) {
                return false;
            }
            situation = next;
            timed &= next;
            cleared |= clearedNow;
            made++;
            return true;
        }

        /**
         * From the first evolution on nothing but situation and times decides what follows, so the first state that
         * comes again begins the cycle.
         */
        boolean findsCycle() {
            int state = situation | timed << MOST_STEPS;
            for (int earlier = 1; earlier < made; earlier++) {
                if (states[earlier] == state) {
                    lead = earlier;
                    period = made - earlier;
                    return true;
                }
            }
            states[made] = state;
            return false;
        }
    }
}
