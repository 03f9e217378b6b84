import java.util.function.Consumer;
import java.util.function.Supplier;

/** Compares a town behind some call with a twin, made alike, that does without it. */
final class Twins {
    private Twins() {
    }

    /** The exception is due, and nothing is changed: now, in the saved states, in what follows. */
    static void refused(String what, Supplier<OrganCorners> made,
            Class<? extends RuntimeException> want, Consumer<OrganCorners> call) {
        OrganCorners first = made.get();
        OrganCorners second = made.get();
        Checks.dueThrow(what, want, () -> call.accept(first));
        Checks.dueThrow(what, want, () -> call.accept(second));
        alike(what + " changes something", first, second, made.get(), made.get());
    }

    /** A call that only asks: nothing is changed by it. */
    static void asked(String what, Supplier<OrganCorners> made, Consumer<OrganCorners> call) {
        OrganCorners first = made.get();
        OrganCorners second = made.get();
        call.accept(first);
        call.accept(second);
        alike(what + " changes something", first, second, made.get(), made.get());
    }

    /** The call saves one state, the one from before it, and undo restores all but the buffer. */
    static void undone(String what, Supplier<OrganCorners> made, Consumer<OrganCorners> call) {
        OrganCorners[] towns = {made.get(), made.get(), made.get(), made.get()};
        for (int i = 0; i < 4; i++) {
            int left = Math.min(5, towns[i].count(15));
            if (i < 2) {
                call.accept(towns[i]);
            } else {
                towns[i].set(0, towns[i].setting(0));
            }
            Checks.due(what + ": saved states", towns[i].count(15), left + 1);
            Checks.due(what + ": saved states left by undo", towns[i].undo(), left);
            towns[i].clearBuffer();
        }
        alike(what + " is not undone", towns[0], towns[1], towns[2], towns[3]);
    }

    private static void alike(String what, OrganCorners first, OrganCorners second,
            OrganCorners third, OrganCorners fourth) {
        Checks.due(what + " in the past", past(first).equals(past(third)) ? 0 : 1, 0);
        Checks.due(what + " to come", future(second).equals(future(fourth)) ? 0 : 1, 0);
    }

    /** What a town answers now and in each of its saved states. */
    private static String past(OrganCorners town) {
        StringBuilder told = new StringBuilder();
        told.append(town.digest());
        while (town.count(15) > 0) {
            told.append(' ').append(town.undo());
            told.append(' ').append(town.digest());
        }
        return told.toString();
    }

    /** What a town answers from now on to the second hour of the next day, for some calls. */
    private static String future(OrganCorners town) {
        StringBuilder told = new StringBuilder();
        told.append(town.firstError()).append(' ').append(town.clearBuffer());
        for (int memory = 0; memory <= 9; memory++) {
            told.append(' ').append(town.set(1, memory)).append(' ').append(town.digest());
        }
        town.set(1, 1);
        for (int hour = 0; hour < 12; hour++) {
            for (int organ = 0; organ < town.count(1); organ++) {
                int tune = town.kindestTune(organ);
                told.append(' ').append(tune == OrganCorners.NONE ? 0 : town.play(organ, tune));
            }
            told.append(' ').append(town.digest()).append(' ').append(town.next());
            if (town.count(4) == 0) {
                told.append(' ').append(town.lots());
            }
        }
        return told.append(' ').append(town.digest()).toString();
    }
}
