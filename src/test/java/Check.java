import java.util.Objects;

/** Counts and prints the answers that are not the ones that are due. */
final class Check {
    private static int checked = 0;
    private static int wrong = 0;

    private Check() {
    }

    static void due(String what, Object got, Object due) {
        checked++;
        if (!Objects.equals(got, due)) {
            wrong++;
            System.out.println(what + " answered " + got + ", due is " + due);
        }
    }

    /** Ends the test: exit code 1 if an answer was wrong, or if nothing was checked. */
    static void end() {
        System.out.println(checked + " answers looked at, " + wrong + " of them wrong");
        System.exit(wrong == 0 && checked > 0 ? 0 : 1);
    }
}
