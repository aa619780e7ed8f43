/** Counts and prints the answers that are not the due ones. */
final class Check {
    private static final int MOST_PRINTED = 40;
    private static int wrong = 0;
    private static long looked = 0;

    private Check() {
    }

    static void due(String call, long got, long want) {
        looked++;
        if (got != want) {
            wrong++;
            if (wrong <= MOST_PRINTED) {
                System.out.println(call + " answered " + got + ", due is " + want);
            }
        }
    }

    static void holds(String what, boolean is) {
        due(what, is ? 1 : 0, 1);
    }

    /** How many answers have been wrong so far. */
    static int wrong() {
        return wrong;
    }

    /** Ends the test, with exit code 1 if an answer was wrong or none was looked at. */
    static void end() {
        System.out.println(looked + " answers, " + wrong + " of them wrong");
        System.exit(wrong == 0 && looked > 0 ? 0 : 1);
    }
}
