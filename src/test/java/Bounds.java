import java.util.function.Consumer;
import java.util.function.Supplier;

/** Calls with each argument on both sides of its bounds. */
final class Bounds {
    private static final Class<IndexOutOfBoundsException> INDEX = IndexOutOfBoundsException.class;

    interface CallWith {
        void call(OrganCorners town, int argument);
    }

    private Bounds() {
    }

    /** Allowed from the least to the greatest; refused, without a change, next to them and far. */
    static void of(String what, Supplier<OrganCorners> made,
            Class<? extends RuntimeException> want, int least, int greatest, CallWith with) {
        if (least <= greatest) {
            with.call(made.get(), least);
            with.call(made.get(), greatest);
        }
        int[] wrong = {least - 1, greatest + 1, Integer.MIN_VALUE, Integer.MAX_VALUE};
        for (int argument : wrong) {
            Twins.refused(what + " " + argument, made, want, town -> with.call(town, argument));
        }
    }

    /** The numbers of organs: none in a fresh town, 0 and 1 in a busy one, 0 to 4 in a full one. */
    static void ofOrgans(String what, CallWith with) {
        of(what + ", no organs", Towns::fresh, INDEX, 0, -1, with);
        of(what + ", 2 organs", Towns::busy, INDEX, 0, 1, with);
        of(what + ", 5 organs", Towns::full, INDEX, 0, 4, with);
    }

    static void ofPlayers(String what, CallWith with) {
        of(what + ", no players", Towns::fresh, INDEX, 0, -1, with);
        of(what + ", 3 players", Towns::busy, INDEX, 0, 2, with);
        of(what + ", 8 players", Towns::full, INDEX, 0, 7, with);
    }

    /** What only asks changes nothing, in any of these towns. */
    static void asks(String what, Consumer<OrganCorners> call) {
        Twins.asked(what, Towns::busy, call);
        Twins.asked(what, Towns::full, call);
    }
}
