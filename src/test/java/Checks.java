/** Counts answers that are as due and prints those that are not. */
final class Checks {
    private static int right = 0;
    private static int wrong = 0;

    private Checks() {
    }

    static void due(String call, long got, long want) {
        if (got == want) {
            right++;
            return;
        }
        wrong++;
        if (wrong <= 40) {
            System.out.println(call + " answered " + got + ", due is " + want);
        }
    }

    static void dueThat(String what, boolean holds) {
        due(what, holds ? 1 : 0, 1);
    }

    /** A refused call has to leave everything as it was, and the digest tells almost everything. */
    static void dueAndNothingChanged(DrumTongue x, long before, String call, long got, long want) {
        due(call, got, want);
        due("digest after " + call, x.digest(), before);
    }

    static int wrong() {
        return wrong;
    }

    static void finish(String name) {
        System.out.println(name + ": " + right + " answers as due, " + wrong + " not");
        if (wrong > 0) {
            System.exit(1);
        }
    }
}
