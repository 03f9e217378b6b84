/** Counts and prints the answers that are not the ones that are due. */
final class Checks {
    private static int done = 0;
    private static int wrong = 0;

    private Checks() {
    }

    static void due(String what, long got, long want) {
        done++;
        if (got != want) {
            wrong++;
            System.out.println(what + " answered " + got + ", due is " + want);
        }
    }

    static void dueExactly(String what, double got, double want) {
        due(what + " (bits)", Double.doubleToLongBits(got), Double.doubleToLongBits(want));
    }

    /** The exception that is due, of just this class. */
    static void dueThrow(String what, Class<? extends RuntimeException> want, Runnable call) {
        done++;
        try {
            call.run();
        } catch (RuntimeException thrown) {
            if (thrown.getClass() != want) {
                wrong++;
                System.out.println(what + " threw " + thrown + ", due is " + want.getName());
            }
            return;
        }
        wrong++;
        System.out.println(what + " threw nothing, due is " + want.getName());
    }

    /** The exception that is due, and that nothing changes by it. */
    static void dueThrow(OrganCorners town, String what, Class<? extends RuntimeException> want,
            Runnable call) {
        long before = town.digest();
        dueThrow(what, want, call);
        due(what + ": digest behind the exception", town.digest(), before);
    }

    static void end(String name) {
        System.out.println(name + ": " + done + " checks, " + wrong + " wrong");
        if (wrong != 0 || done == 0) {
            System.exit(1);
        }
    }
}
