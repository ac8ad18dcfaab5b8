import java.util.ArrayList;
import java.util.Arrays;
import java.util.List;
import java.util.Random;
import java.util.TreeSet;

/**
 * Runs of calls, the same each time, on the program and on a model that follows the document's words one by one,
 * without any of the program's shortcuts.
 */
public final class ModelTest {
    private static final int RUNS = 3000;
    private static final int VARIATIONS = 100;
    private static final int MANY = 255;
    private static final int CALLS = 512;
    private static final int LEAST_BUILDING = 30;
    private static final int MOST_BUILDING = 120;

    private final Random random;
    private final ForcedChart chart = new ForcedChart();
    private final Model model = new Model();
    private final String run;
    private int calls;

    private ModelTest(int seed) {
        random = new Random(seed);
        run = "run " + seed;
    }

    public static void main(String[] args) {
        Check.about("the document, as the model follows it");
        int[] seen = new int[4];
        for (int seed = 0; seed < RUNS; seed++) {
            new ModelTest(seed).compare(seen);
        }
        for (int seed = 0; seed < VARIATIONS; seed++) {
            Charts.Rows rows = seed % 2 == 0 ? Charts.UNSTABLE_AFTER_MANY : Charts.AT_REST_AFTER_MANY;
            new ModelTest(RUNS + seed).compareVariation(rows, seen);
        }
        // A generator that no longer comes to these would test nothing of them.
        Check.due("enough unstable scans", seen[0] > RUNS / 4, true);
        Check.due("enough leads above 1", seen[1] > RUNS / 20, true);
        Check.due("enough scans of several evolutions", seen[2] > RUNS / 60, true);
        Check.due("enough scans of very many evolutions", seen[3] > VARIATIONS / 4, true);
        Check.end();
    }

    private void compare(int[] seen) {
        int lean = random.nextInt(3);
        int building = LEAST_BUILDING + random.nextInt(MOST_BUILDING - LEAST_BUILDING);
        for (int i = 0; i < building; i++) {
            build(lean);
        }
        while (calls < CALLS - 40) {
            int pick = random.nextInt(40);
            if (pick == 0) {
                chart.stop();
                model.stop();
                calls++;
                build(lean);
            } else if (pick < 5) {
                boolean settles = random.nextInt(3) != 0;
                due("start(" + settles + ")", chart.start(settles), model.start(settles));
            } else if (pick == 5) {
                build(lean);
            } else {
                scan(seen);
            }
            look();
        }
        lookAtAll();
    }

    /** The model has no limit to the evolutions of a scan, so this is where a limit of the program would show. */
    private void compareVariation(Charts.Rows rows, int[] seen) {
        for (int step = 0; step < 8; step++) {
            addStep(0, (maybeFlipped(rows.initial()) >> step & 1) != 0);
        }
        for (int[] e : rows.expressions()) {
            addExpression(e[0], e[1], e[2]);
        }
        for (int[] t : rows.transitions()) {
            addTransition(maybeFlipped(t[0]), maybeFlipped(t[1]), t[2]);
        }
        due("start(true)", chart.start(true), model.start(true));
        for (int i = 0; i < 4; i++) {
            scan(seen);
            look();
        }
        lookAtAll();
    }

    /** The set, once in a while with one step more or less. */
    private int maybeFlipped(int set) {
        return random.nextInt(40) == 0 ? set ^ 1 << random.nextInt(8) : set;
    }

    private void addStep(int part, boolean initial) {
        due("step(" + part + ", " + initial + ")", chart.step(part, initial), model.step(part, initial));
    }

    private void addExpression(int kind, int a, int b) {
        due("expression(" + kind + ", " + a + ", " + b + ")", chart.expression(kind, a, b),
                model.expression(kind, a, b));
    }

    private void addTransition(int from, int to, int expression) {
        due("transition(" + from + ", " + to + ", " + expression + ")", chart.transition(from, to, expression),
                model.transition(from, to, expression));
    }

    private void due(String call, long got, long want) {
        calls++;
        Check.due(run + ", call " + calls + ": " + call, got, want);
    }

    private void due(String call, boolean got, boolean want) {
        due(call, got ? 1 : 0, want ? 1 : 0);
    }

    private int around(int count) {
        return random.nextInt(30) == 0 ? random.nextInt(count + 4) - 2 : random.nextInt(Math.max(1, count));
    }

    private int span() {
        int[] spans = {0, 1, 2, 3, 5, 8, 1000000, 1000001, -1};
        return spans[random.nextInt(random.nextInt(8) == 0 ? spans.length : 6)];
    }

    /** With lean 2 mostly single steps, for chains that are long; else any set. */
    private int setOf(int part, int lean) {
        int set = 0;
        if (lean == 2 && random.nextInt(6) != 0) {
            int step = around(model.steps.size());
            return 1 << Math.max(0, step);
        }
        for (int step = 0; step < model.steps.size(); step++) {
            if (model.steps.get(step)[0] == part && random.nextInt(3) == 0) {
                set |= 1 << step;
            }
        }
        return random.nextInt(60) == 0 ? set | 1 << random.nextInt(32) : set;
    }

    private void build(int lean) {
        int pick = random.nextInt(12);
        int steps = model.steps.size();
        if (pick < 2) {
            int part = lean != 1 ? around(1) : around(3);
            boolean initial = random.nextInt(3) == 0;
            addStep(part, initial);
        } else if (pick < 5) {
            int kind = around(8);
            int a = kind < 3 ? around(3) : around(kind < 5 ? steps : model.expressions.size());
            int b = kind < 5 ? span() : around(model.expressions.size());
            addExpression(kind, a, b);
        } else if (pick < 8) {
            int part = lean != 1 ? 0 : random.nextInt(3);
            addTransition(setOf(part, lean), setOf(part, lean), around(model.expressions.size()));
        } else if (pick < 9) {
            int step = around(steps);
            int part = random.nextInt(4);
            int fixed = random.nextInt(3) == 0 ? -1 - random.nextInt(8) / 7 : setOf(part, 1);
            due("order(" + step + ", " + part + ", " + fixed + ")", chart.order(step, part, fixed),
                    model.order(step, part, fixed));
        } else {
            int step = around(steps);
            int qualifier = around(10);
            int variable = around(4);
            int duration = span();
            due("action(" + step + ", " + qualifier + ", " + variable + ", " + duration + ")",
                    chart.action(step, qualifier, variable, duration),
                    model.action(step, qualifier, variable, duration));
        }
    }

    private void scan(int[] seen) {
        int inputs = random.nextInt(random.nextInt(8) == 0 ? 1024 : 8) - (random.nextInt(16) == 0 ? 4096 : 0);
        int dt = span();
        int answer = model.scan(inputs, dt);
        due("scan(" + inputs + ", " + dt + ")", chart.scan(inputs, dt), answer);
        seen[0] += answer == ForcedChart.UNSTABLE ? 1 : 0;
        seen[1] += answer == ForcedChart.UNSTABLE && model.lead > 1 ? 1 : 0;
        seen[2] += answer > 2 ? 1 : 0;
        seen[3] += Math.max(answer, model.lead + model.period - 1) > MANY ? 1 : 0;
    }

    private void look() {
        int number = random.nextInt(14) - 1;
        due("active()", chart.active(), Model.number(model.situation()));
        due("outputs()", chart.outputs(), model.outputs);
        due("cleared()", chart.cleared(), model.cleared);
        due("lead()", chart.lead(), model.lead);
        due("period()", chart.period(), model.period);
        due("time(" + number + ")", chart.time(number), model.timeOf(number));
        due("stored(" + number + ")", chart.stored(number), model.isStored(number));
        if (random.nextInt(4) == 0) {
            due("enabled()", chart.enabled(), model.enabled());
            due("evolutions()", chart.evolutions(), model.evolutions);
            due("unreached()", chart.unreached(), model.unreached());
        }
    }

    private void lookAtAll() {
        for (int number = 0; number < 8; number++) {
            due("time(" + number + ")", chart.time(number), model.timeOf(number));
        }
        for (int number = 0; number < 12; number++) {
            due("stored(" + number + ")", chart.stored(number), model.isStored(number));
        }
    }

    private static final class Model {
        final List<int[]> steps = new ArrayList<>();
        final List<int[]> expressions = new ArrayList<>();
        final List<int[]> transitions = new ArrayList<>();
        final List<int[]> orders = new ArrayList<>();
        final List<int[]> actions = new ArrayList<>();
        boolean runs;
        boolean settles;
        /** The time of each step; -1 if it is not active. */
        int[] times = new int[0];
        /** The age of each action; -1 if it is not stored. */
        int[] ages = new int[0];
        boolean[] inputs = new boolean[8];
        boolean[] inputsBefore = new boolean[8];
        TreeSet<Integer> endOfScanBefore = new TreeSet<>();
        int outputs;
        int evolutions;
        int cleared;
        int lead;
        int period;

        static int number(TreeSet<Integer> set) {
            int sum = 0;
            for (int member : set) {
                sum += 1 << member;
            }
            return sum;
        }

        static TreeSet<Integer> members(int number) {
            TreeSet<Integer> set = new TreeSet<>();
            for (int member = 0; member < 32; member++) {
                if ((number & 1 << member) != 0) {
                    set.add(member);
                }
            }
            return set;
        }

        static boolean isThere(int number, List<int[]> list) {
            return 0 <= number && number < list.size();
        }

        static int added(List<int[]> list, int... fields) {
            list.add(fields);
            return list.size() - 1;
        }

        TreeSet<Integer> situation() {
            return situation(times);
        }

        static TreeSet<Integer> situation(int[] times) {
            TreeSet<Integer> set = new TreeSet<>();
            for (int step = 0; step < times.length; step++) {
                if (times[step] >= 0) {
                    set.add(step);
                }
            }
            return set;
        }

        int step(int part, boolean initial) {
            boolean good = !runs && steps.size() < 8 && (part == 0 || part == 1 || part == 2);
            return good ? added(steps, part, initial ? 1 : 0) : -2;
        }

        int depth(int expression) {
            int[] x = expressions.get(expression);
            return x[0] < 5 ? 0 : 1 + (x[0] == 5 ? depth(x[1]) : Math.max(depth(x[1]), depth(x[2])));
        }

        int expression(int kind, int a, int b) {
            boolean good = !runs && expressions.size() < 24 && kind >= 0 && kind <= 7;
            good = good && (kind > 2 || a >= 0 && a <= 7);
            good = good && (kind != 3 && kind != 4 || isThere(a, steps));
            good = good && (kind != 4 || b >= 0 && b <= 1000000);
            good = good && (kind < 5 || isThere(a, expressions));
            good = good && (kind < 6 || isThere(b, expressions));
            if (!good) {
                return -2;
            }
            int number = added(expressions, kind, a, b);
            if (depth(number) > 4) {
                expressions.remove(number);
                return -2;
            }
            return number;
        }

        int transition(int from, int to, int expression) {
            TreeSet<Integer> both = members(from);
            both.addAll(members(to));
            if (runs || transitions.size() == 12 || from == 0 || to == 0 || !isThere(expression, expressions)) {
                return -2;
            }
            TreeSet<Integer> parts = new TreeSet<>();
            for (int member : both) {
                if (!isThere(member, steps)) {
                    return -2;
                }
                parts.add(steps.get(member)[0]);
            }
            return parts.size() > 1 ? -2 : added(transitions, from, to, expression, parts.first());
        }

        int order(int step, int part, int fixed) {
            if (runs || orders.size() == 4 || !isThere(step, steps) || part <= steps.get(step)[0] || part > 2) {
                return -2;
            }
            if (fixed != -1) {
                for (int member : members(fixed)) {
                    if (!isThere(member, steps) || steps.get(member)[0] != part) {
                        return -2;
                    }
                }
            }
            return added(orders, step, part, fixed);
        }

        int action(int step, int qualifier, int variable, int duration) {
            boolean good = !runs && actions.size() < 12 && isThere(step, steps) && qualifier >= 0 && qualifier <= 9;
            good = good && variable >= 0 && variable <= 7 && duration >= 0 && duration <= 1000000;
            return good ? added(actions, step, qualifier, variable, duration) : -2;
        }

        int unreached() {
            TreeSet<Integer> reached = new TreeSet<>();
            for (int step = 0; step < steps.size(); step++) {
                if (steps.get(step)[1] == 1) {
                    reached.add(step);
                }
            }
            boolean grows = true;
            while (grows) {
                grows = false;
                for (int[] t : transitions) {
                    if (reached.containsAll(members(t[0]))) {
                        grows |= reached.addAll(members(t[1]));
                    }
                }
                for (int[] o : orders) {
                    if (reached.contains(o[0]) && o[2] != -1) {
                        grows |= reached.addAll(members(o[2]));
                    }
                }
            }
            return (1 << steps.size()) - 1 - number(reached);
        }

        boolean start(boolean settling) {
            boolean some = false;
            for (int[] s : steps) {
                some |= s[1] == 1;
            }
            if (runs || !some) {
                return false;
            }
            stop();
            runs = true;
            settles = settling;
            for (int step = 0; step < steps.size(); step++) {
                times[step] = steps.get(step)[1] == 1 ? 0 : -1;
            }
            return true;
        }

        void stop() {
            runs = false;
            times = new int[steps.size()];
            Arrays.fill(times, -1);
            ages = new int[actions.size()];
            Arrays.fill(ages, -1);
            inputs = new boolean[8];
            inputsBefore = new boolean[8];
            endOfScanBefore = new TreeSet<>();
            outputs = 0;
            evolutions = 0;
            cleared = 0;
            lead = 0;
            period = 0;
        }

        boolean isTrue(int expression, boolean first) {
            int[] x = expressions.get(expression);
            int a = x[1];
            int b = x[2];
            switch (x[0]) {
                case 0: return inputs[a];
                case 1: return first && inputs[a] && !inputsBefore[a];
                case 2: return first && !inputs[a] && inputsBefore[a];
                case 3: return times[a] >= 0;
                case 4: return times[a] >= 0 && times[a] >= b;
                case 5: return !isTrue(a, first);
                case 6: return isTrue(a, first) & isTrue(b, first);
                default: return isTrue(a, first) | isTrue(b, first);
            }
        }

        boolean isDue(int transition, boolean first) {
            int[] t = transitions.get(transition);
            return situation().containsAll(members(t[0])) && isTrue(t[2], first);
        }

        /** Makes the next situation in b and answers the transitions that are cleared. */
        TreeSet<Integer> evolution(TreeSet<Integer> b, boolean first) {
            TreeSet<Integer> clearedOnes = new TreeSet<>();
            for (int part = 0; part < 3; part++) {
                TreeSet<Integer> old = situation();
                final int p = part;
                old.removeIf(step -> steps.get(step)[0] != p);
                int[] ruling = null;
                for (int[] o : orders) {
                    if (ruling == null && o[1] == part && b.contains(o[0])) {
                        ruling = o;
                    }
                }
                if (ruling != null) {
                    b.addAll(ruling[2] == -1 ? old : members(ruling[2]));
                    continue;
                }
                TreeSet<Integer> left = new TreeSet<>();
                TreeSet<Integer> entered = new TreeSet<>();
                for (int t = 0; t < transitions.size(); t++) {
                    if (transitions.get(t)[3] != part || !isDue(t, first)) {
                        continue;
                    }
                    TreeSet<Integer> common = members(transitions.get(t)[0]);
                    common.retainAll(left);
                    if (settles || common.isEmpty()) {
                        clearedOnes.add(t);
                        left.addAll(members(transitions.get(t)[0]));
                        entered.addAll(members(transitions.get(t)[1]));
                    }
                }
                old.removeAll(left);
                b.addAll(old);
                b.addAll(entered);
            }
            return clearedOnes;
        }

        int scan(int given, int dt) {
            if (!runs || dt < 0 || dt > 1000000) {
                return -2;
            }
            int[] oldTimes = times;
            boolean[] oldInputs = inputs;
            boolean[] olderInputs = inputsBefore;
            times = times.clone();
            for (int step = 0; step < times.length; step++) {
                times[step] += times[step] >= 0 ? dt : 0;
            }
            inputsBefore = oldInputs;
            inputs = new boolean[8];
            for (int i = 0; i < 8; i++) {
                inputs[i] = members(given).contains(i);
            }
            TreeSet<Integer> everCleared = new TreeSet<>();
            List<String> states = new ArrayList<>();
            int made = 0;
            boolean more = true;
            boolean again = false;
            while (more && !again) {
                TreeSet<Integer> b = new TreeSet<>();
                TreeSet<Integer> now = evolution(b, made == 0);
                boolean idle = now.isEmpty() && b.equals(situation());
                if (!idle) {
                    made++;
                    everCleared.addAll(now);
                    for (int step = 0; step < times.length; step++) {
                        times[step] = !b.contains(step) ? -1 : Math.max(times[step], 0);
                    }
                    // What has come twice, both times without edges ahead, comes for ever.
                    again = states.contains(Arrays.toString(times));
                    states.add(Arrays.toString(times));
                }
                more = settles && !idle;
            }
            if (again) {
                times = oldTimes;
                inputs = oldInputs;
                inputsBefore = olderInputs;
                findLeadAndPeriod(states);
                return -1;
            }
            lead = 0;
            period = 0;
            evolutions = made;
            cleared = number(everCleared);
            for (int action = 0; action < ages.length; action++) {
                ages[action] += ages[action] >= 0 ? dt : 0;
            }
            workOutActions();
            endOfScanBefore = situation();
            return made;
        }

        void findLeadAndPeriod(List<String> states) {
            lead = 0;
            for (int i = 0; lead == 0; i++) {
                for (int later = i + 1; later < states.size() && lead == 0; later++) {
                    if (states.get(i).equals(states.get(later))) {
                        lead = i + 1;
                        period = later - i;
                    }
                }
            }
        }

        boolean isReset(int variable) {
            for (int[] a : actions) {
                if (a[2] == variable && a[1] == 1 && times[a[0]] >= 0) {
                    return true;
                }
            }
            return false;
        }

        void workOutActions() {
            TreeSet<Integer> on = new TreeSet<>();
            for (int i = 0; i < ages.length; i++) {
                int[] a = actions.get(i);
                int q = a[1];
                int d = a[3];
                boolean x = times[a[0]] >= 0;
                boolean w = endOfScanBefore.contains(a[0]);
                int e = Math.max(0, times[a[0]]);
                boolean r = isReset(a[2]);
                if (q == 2 || q == 7 || q == 9) {
                    if (r) {
                        ages[i] = -1;
                    } else if (x && ages[i] < 0) {
                        ages[i] = 0;
                    }
                }
                if (q == 8) {
                    if (r) {
                        ages[i] = -1;
                    } else if (x && e >= d) {
                        ages[i] = Math.max(0, ages[i]);
                    }
                }
                boolean s = ages[i] >= 0;
                boolean[] isOn = {x, false, s, x && e < d, x && e >= d, x && !w, w && !x, s && ages[i] >= d, s,
                    s && ages[i] < d};
                if (isOn[q] && !r) {
                    on.add(a[2]);
                }
            }
            outputs = number(on);
        }

        int timeOf(int step) {
            return step >= 0 && step < times.length ? Math.max(0, times[step]) : 0;
        }

        int enabled() {
            TreeSet<Integer> set = new TreeSet<>();
            for (int t = 0; t < transitions.size(); t++) {
                if (situation().containsAll(members(transitions.get(t)[0]))) {
                    set.add(t);
                }
            }
            return number(set);
        }

        boolean isStored(int action) {
            return action >= 0 && action < ages.length && ages[action] >= 0;
        }
    }
}
