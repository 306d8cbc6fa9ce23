/** Counts the answers that are not the ones due; end() makes the exit code of them. */
final class Check {
    private int wrong;
    private int made;

    void due(String call, int got, int want) {
        made++;
        if (got != want) {
            wrong++;
            System.out.println(call + " answered " + got + ", due is " + want);
        }
    }

    void holds(String what, boolean so) {
        made++;
        if (!so) {
            wrong++;
            System.out.println("does not hold: " + what);
        }
    }

    int wrong() {
        return wrong;
    }

    void end() {
        System.out.println(made + " checks, " + wrong + " wrong");
        if (wrong != 0 || made == 0) {
            System.exit(1);
        }
    }
}
