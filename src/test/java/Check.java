/** Counts and prints the answers that are not the ones that are due. */
final class Check {
    private static String sentence = "";
    private static int wrong = 0;

    private Check() {
    }

    /** Names the sentence of the document by which the answers that follow are due. */
    static void about(String quoted) {
        sentence = quoted;
    }

    static void due(String call, long got, long want) {
        if (got != want) {
            fault(call, "" + got, "" + want);
        }
    }

    static void due(String call, boolean got, boolean want) {
        due(call, got ? 1L : 0L, want ? 1L : 0L);
    }

    static void due(String call, String got, String want) {
        if (!got.equals(want)) {
            fault(call, got, want);
        }
    }

    static void refused(String call, int got) {
        due(call, got, ForcedChart.REFUSED);
    }

    /** All that a chart tells. */
    static String look(ForcedChart chart) {
        StringBuilder all = new StringBuilder();
        all.append("unreached ").append(chart.unreached());
        all.append(", active ").append(chart.active());
        all.append(", enabled ").append(chart.enabled());
        all.append(", outputs ").append(chart.outputs());
        all.append(", evolutions ").append(chart.evolutions());
        all.append(", cleared ").append(chart.cleared());
        all.append(", lead ").append(chart.lead());
        all.append(", period ").append(chart.period());
        all.append(", times");
        for (int step = 0; step < 8; step++) {
            all.append(' ').append(chart.time(step));
        }
        all.append(", stored");
        for (int action = 0; action < 12; action++) {
            all.append(chart.stored(action) ? " yes" : " no");
        }
        return all.toString();
    }

    static void end() {
        if (wrong != 0) {
            System.out.println(wrong + " answers are not as due");
            System.exit(1);
        }
    }

    private static void fault(String call, String got, String want) {
        wrong++;
        System.out.println(call + " answered " + got + ", due is " + want + " [" + sentence + "]");
    }
}
