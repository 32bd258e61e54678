/** Compares answers with those that are due, prints each that differs, and ends the test. */
final class Due {
    private static int compared = 0;
    private static int wrong = 0;

    private Due() {
    }

    static void due(String call, long got, long want) {
        compared++;
        if (got != want) {
            wrong++;
            System.out.println(call + " answered " + got + ", due is " + want);
        }
    }

    static void holds(String what, boolean holds) {
        compared++;
        if (!holds) {
            wrong++;
            System.out.println("does not hold: " + what);
        }
    }

    static int wrongSoFar() {
        return wrong;
    }

    static void end() {
        System.out.println(compared + " answers, " + wrong + " wrong");
        System.exit(wrong == 0 && compared > 0 ? 0 : 1);
    }
}
