/** Counts and prints the answers that are not the ones due, each with the sentence of the document that asks for it. */
final class Check {
    /** What a call of together did, as a number beside its answers 1 and 0. */
    static final long THREW_ARGUMENT = -101, THREW_STATE = -102;

    private static final int STATE = -13;

    private static String sentence = "";
    private static int wrong = 0;

    private Check() {
    }

    /** The answers checked from here on are asked for by these words of the document, under that heading. */
    static void sentence(String heading, String words) {
        sentence = heading + ", '" + words + "': ";
    }

    static void due(String call, long got, long want) {
        due(call, Long.toString(got), Long.toString(want));
    }

    static void due(String call, String got, String want) {
        if (!got.equals(want)) {
            wrong++;
            System.out.println(sentence + call + " answered " + got + ", due is " + want);
        }
    }

    static void due(String call, boolean got, boolean want) {
        due(call, got ? 1 : 0, want ? 1 : 0);
    }

    static void dueShare(String name, BalanceRounds x, int... rounds) {
        for (int i = 0; i < rounds.length; i++) {
            due(name + ": round(" + (i + 1) + ")", x.round(i + 1), rounds[i]);
        }
    }

    /** Whether a share holds, asked in each way there is; there must be an area. */
    static void dueHolds(String name, BalanceRounds x, boolean holds) {
        due(name + ": round(1) is told", x.round(1) != STATE, holds);
        due(name + ": changed() is told", x.changed() != STATE, holds);
        due(name + ": faults() is told", x.faults() != STATE, holds);
        due(name + ": together(0) is told", together(x, 0) != THREW_STATE, holds);
    }

    static long together(BalanceRounds x, int round) {
        try {
            return x.together(round) ? 1 : 0;
        } catch (IllegalArgumentException e) {
            return THREW_ARGUMENT;
        } catch (IllegalStateException e) {
            return THREW_STATE;
        }
    }

    static boolean anyWrong() {
        return wrong != 0;
    }

    static void end() {
        System.out.println(wrong == 0 ? "all answers are as due" : wrong + " answers are not as due");
        if (wrong != 0) {
            System.exit(1);
        }
    }
}
