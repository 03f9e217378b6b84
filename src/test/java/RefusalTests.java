import java.util.function.Consumer;
import java.util.function.Supplier;

/**
 * Promise by promise: the last argument that is allowed and the first one that is not, each refused
 * call and its exception, that it changes nothing, and the empty and the full case of each answer.
 */
public final class RefusalTests {
    private static final Class<IllegalArgumentException> ARGUMENT = IllegalArgumentException.class;
    private static final Class<IllegalStateException> STATE = IllegalStateException.class;
    private static final Class<IndexOutOfBoundsException> INDEX = IndexOutOfBoundsException.class;
    private static final int NONE = OrganCorners.NONE;

    private interface CallWith {
        void call(OrganCorners town, int argument);
    }

    private RefusalTests() {
    }

    public static void main(String[] args) {
        newObject();
        addCorner();
        addOrgan();
        addPlayer();
        permit();
        barrel();
        assign();
        set();
        lots();
        weather();
        play();
        next();
        append();
        clearBuffer();
        firstError();
        run();
        runStopsAtEachOrder();
        undo();
        corner();
        cornerAtItsBounds();
        organ();
        player();
        hours();
        count();
        setting();
        whyNot();
        ifPlayed();
        kindestTune();
        most();
        ifEnded();
        playersShare();
        digest();
        Checks.end("RefusalTests");
    }

    /** Allowed from the least to the greatest; refused, without a change, next to them and far. */
    private static void bounds(String what, Supplier<OrganCorners> made,
            Class<? extends RuntimeException> want, int least, int greatest, CallWith with) {
        if (least <= greatest) {
            with.call(made.get(), least);
            with.call(made.get(), greatest);
        }
        int[] wrong = {least - 1, greatest + 1, Integer.MIN_VALUE, Integer.MAX_VALUE};
        for (int argument : wrong) {
            Twins.refused(what + " " + argument, made, want, town -> with.call(town, argument));
        }
    }

    /** The numbers of organs: none in a fresh town, 0 and 1 in a busy one, 0 to 4 in a full one. */
    private static void organBounds(String what, CallWith with) {
        bounds(what + ", no organs", Towns::fresh, INDEX, 0, -1, with);
        bounds(what + ", 2 organs", Towns::busy, INDEX, 0, 1, with);
        bounds(what + ", 5 organs", Towns::full, INDEX, 0, 4, with);
    }

    private static void playerBounds(String what, CallWith with) {
        bounds(what + ", no players", Towns::fresh, INDEX, 0, -1, with);
        bounds(what + ", 3 players", Towns::busy, INDEX, 0, 2, with);
        bounds(what + ", 8 players", Towns::full, INDEX, 0, 7, with);
    }

    /** What only asks changes nothing, in any of these towns. */
    private static void asks(String what, Consumer<OrganCorners> call) {
        Twins.asked(what, Towns::busy, call);
        Twins.asked(what, Towns::full, call);
    }

    /** "Creates a town without corners, organs and players, with an empty buffer." */
    private static void newObject() {
        OrganCorners town = new OrganCorners();
        for (int what = 0; what <= 2; what++) {
            Checks.due("1 none", town.count(what), 0);
        }
        Checks.due("1 no saved states", town.count(15), 0);
        Checks.due("1 empty buffer", town.clearBuffer(), 0);
        Twins.refused("1 no corner 0", Towns::fresh, INDEX, fresh -> fresh.corner(0, 0));
        Twins.refused("1 no organ 0", Towns::fresh, INDEX, fresh -> fresh.organ(0, 0));
        Twins.refused("1 no player 0", Towns::fresh, INDEX, fresh -> fresh.player(0, 0));
        OrganCorners other = new OrganCorners();
        other.addPlayer();
        other.append('x');
        Checks.due("1 another object's players", town.count(2), 0);
        Checks.due("1 another object's buffer", town.clearBuffer(), 0);
    }

    /** "place: 0 to 99", "crowd: 1 to 90", "first: ... 0 to 9", "quiet: ... 0 to 9", "Throws
     * IllegalStateException if there are 10 corners, or one at this place" */
    private static void addCorner() {
        bounds("2 place", Towns::busy, ARGUMENT, 0, 99, (town, it) -> town.addCorner(it, 5, 0, 0));
        bounds("2 crowd", Towns::busy, ARGUMENT, 1, 90, (town, it) -> town.addCorner(5, it, 0, 0));
        bounds("2 first", Towns::busy, ARGUMENT, 0, 9, (town, it) -> town.addCorner(5, 5, it, 0));
        bounds("2 quiet", Towns::busy, ARGUMENT, 0, 9, (town, it) -> town.addCorner(5, 5, 0, it));
        int[] places = {10, 30, 80};
        for (int place : places) {
            Twins.refused("2 one at " + place, Towns::busy, STATE,
                    town -> town.addCorner(place, 5, 0, 0));
            Checks.due("2 none below", Towns.busy().addCorner(place - 1, 5, 0, 0), 3);
            Checks.due("2 none above", Towns.busy().addCorner(place + 1, 5, 0, 0), 3);
        }
        OrganCorners town = new OrganCorners();
        for (int corner = 0; corner < 9; corner++) {
            town.addCorner(corner, 1, 0, 0);
        }
        Checks.due("2 the tenth", town.addCorner(99, 90, 9, 9), 9);
        Twins.refused("2 the eleventh", Towns::full, STATE, full -> full.addCorner(1, 5, 0, 0));
        Twins.refused("2 eleventh at a place that is taken", Towns::full, STATE,
                full -> full.addCorner(0, 5, 0, 0));
        town.undo();
        Checks.due("2 a place is free behind undo", town.addCorner(99, 1, 0, 0), 9);
        Twins.undone("2 addCorner", Towns::busy, busy -> busy.addCorner(99, 90, 9, 9));
    }

    /** "percent: the owner's percent, 0 to 50", "Throws IllegalStateException if there are 5
     * organs" */
    private static void addOrgan() {
        bounds("3 percent", Towns::busy, ARGUMENT, 0, 50, (town, it) -> town.addOrgan(it));
        OrganCorners town = Towns.busy();
        Checks.due("3 percent 0", town.addOrgan(0), 2);
        Checks.due("3 percent 50", town.addOrgan(50), 3);
        Checks.due("3 the fifth", town.addOrgan(1), 4);
        Checks.due("3 is 0", town.organ(2, 0), 0);
        Checks.due("3 is 50", town.organ(3, 0), 50);
        Checks.dueThrow(town, "3 the sixth", STATE, () -> town.addOrgan(1));
        Twins.refused("3 the sixth", Towns::full, STATE, full -> full.addOrgan(50));
        Twins.undone("3 addOrgan", Towns::busy, busy -> busy.addOrgan(50));
    }

    /** "Throws IllegalStateException if there are 8 players" */
    private static void addPlayer() {
        OrganCorners town = Towns.busy();
        for (int player = 3; player < 8; player++) {
            Checks.due("4 player", town.addPlayer(), player);
        }
        Checks.dueThrow(town, "4 the ninth", STATE, () -> town.addPlayer());
        Twins.refused("4 the ninth", Towns::full, STATE, full -> full.addPlayer());
        Twins.undone("4 addPlayer", Towns::busy, busy -> busy.addPlayer());
    }

    /** "Throws IndexOutOfBoundsException if there is no such organ", "Returns how many organs have
     * a permit then." */
    private static void permit() {
        organBounds("5 given", (town, it) -> town.permit(it, true));
        organBounds("5 taken", (town, it) -> town.permit(it, false));
        OrganCorners town = Towns.full();
        for (int organ = 0; organ < 5; organ++) {
            Checks.due("5 taken from " + organ, town.permit(organ, false), 4 - organ);
        }
        Checks.due("5 taken from none", town.permit(4, false), 0);
        for (int organ = 0; organ < 5; organ++) {
            Checks.due("5 given to " + organ, town.permit(organ, true), 1 + organ);
        }
        Checks.due("5 given to all", town.permit(0, true), 5);
        Twins.undone("5 permit taken", Towns::busy, busy -> busy.permit(1, false));
        Twins.undone("5 permit as it was", Towns::busy, busy -> busy.permit(1, true));
    }

    /** "tunes: the tunes on it, as a bit mask, 0 to 1023" */
    private static void barrel() {
        organBounds("6 organ", (town, it) -> town.barrel(it, 0));
        bounds("6 tunes", Towns::busy, ARGUMENT, 0, 1023, (town, it) -> town.barrel(1, it));
        OrganCorners town = Towns.full();
        Checks.due("6 all tunes before", town.barrel(4, 0), 1023);
        Checks.due("6 none before", town.barrel(4, 512), 0);
        Checks.due("6 the last before", town.barrel(4, 1), 512);
        Checks.due("6 the first", town.organ(4, 2), 1);
        Checks.due("6 no other barrel", town.organ(3, 2), 1023);
        Twins.undone("6 barrel", Towns::busy, busy -> busy.barrel(1, 0));
        Twins.undone("6 barrel as it was", Towns::busy, busy -> busy.barrel(1, 1023));
    }

    /** "organ: the number of the organ; NONE: none", "Throws IndexOutOfBoundsException if there is
     * no such player or organ" */
    private static void assign() {
        playerBounds("7 player to none", (town, it) -> town.assign(it, NONE));
        bounds("7 player to an organ", Towns::busy, INDEX, 0, 2, (town, it) -> town.assign(it, 1));
        bounds("7 organ", Towns::busy, INDEX, NONE, 1, (town, it) -> town.assign(2, it));
        bounds("7 organ of 5", Towns::full, INDEX, NONE, 4, (town, it) -> town.assign(7, it));
        Twins.refused("7 neither", Towns::busy, INDEX, town -> town.assign(3, 2));
        OrganCorners alone = new OrganCorners();
        alone.addPlayer();
        Checks.dueThrow(alone, "7 no organs", INDEX, () -> alone.assign(0, 0));
        Checks.due("7 none to none", alone.assign(0, NONE), NONE);
        OrganCorners town = Towns.full();
        Checks.due("7 from 0", town.assign(0, 4), 0);
        Checks.due("7 from the last", town.assign(0, NONE), 4);
        Checks.due("7 from none", town.assign(0, 0), NONE);
        Checks.due("7 to the same", town.assign(0, 0), 0);
        Twins.undone("7 assign", Towns::busy, busy -> busy.assign(0, 1));
        Twins.undone("7 assign to none", Towns::busy, busy -> busy.assign(2, NONE));
        Twins.undone("7 assign to the same", Towns::busy, busy -> busy.assign(0, 0));
    }

    /** "Throws IndexOutOfBoundsException if there is no such setting", "Throws
     * IllegalArgumentException if value is out of range" */
    private static void set() {
        bounds("8 setting", Towns::busy, INDEX, 0, 4, (town, it) -> town.set(it, 0));
        int[] greatest = {99, 9, 50, 100, 50};
        for (int which = 0; which < 5; which++) {
            int setting = which;
            bounds("8 value of " + which, Towns::busy, ARGUMENT, 0, greatest[which],
                    (town, it) -> town.set(setting, it));
            Twins.undone("8 set " + which, Towns::busy, town -> town.set(setting, 1));
        }
        Twins.undone("8 set as it was", Towns::busy, town -> town.set(0, 20));
    }

    private static OrganCorners pairInHour(int hour) {
        OrganCorners town = Towns.pair();
        Towns.nextTimes(town, hour);
        return town;
    }

    private static OrganCorners pairThatPlayed(int hour) {
        OrganCorners town = pairInHour(hour);
        town.play(0, 0);
        return town;
    }

    /** "Throws IllegalStateException if the hour is not 0, or something was played on this day" */
    private static void lots() {
        for (int hour = 1; hour < 10; hour++) {
            int now = hour;
            Twins.refused("9 hour " + hour, () -> pairInHour(now), STATE, town -> town.lots());
        }
        Twins.refused("9 played in hour 0", () -> pairThatPlayed(0), STATE, town -> town.lots());
        Twins.refused("9 played in hour 3", () -> pairThatPlayed(3), STATE, town -> town.lots());
        Twins.refused("9 played before", Towns::busy, STATE, town -> town.lots());
        Checks.due("9 hour 0", Towns.pair().lots(), 2);
        Checks.due("9 hour 0 of the next day", pairInHour(10).lots(), 2);
        OrganCorners town = pairThatPlayed(9);
        town.next();
        Checks.due("9 played on the day before", town.lots(), 2);
        OrganCorners undone = pairThatPlayed(0);
        undone.undo();
        Checks.due("9 what was played is undone", undone.lots(), 2);
        Checks.due("9 none has a corner", Towns.fresh().lots(), 0);
        Checks.due("9 all have a corner", fullNextDay().lots(), 5);
        Twins.undone("9 lots", Towns::pair, pair -> pair.lots());
        Twins.undone("9 lots without corners", Towns::fresh, fresh -> fresh.lots());
        Twins.undone("9 lots in a full town", RefusalTests::fullNextDay, full -> full.lots());
    }

    private static OrganCorners fullNextDay() {
        OrganCorners town = Towns.full();
        town.play(0, 0);
        Towns.nextTimes(town, 10);
        return town;
    }

    /** "Throws IllegalStateException if something was played on this day", "Returns 1 if it was
     * wet, otherwise 0." */
    private static void weather() {
        for (int hour = 0; hour < 10; hour++) {
            int now = hour;
            OrganCorners town = pairInHour(hour);
            Checks.due("10 nothing played, hour " + hour, town.weather(true), 0);
            Checks.due("10 was wet, hour " + hour, town.weather(false), 1);
            Twins.refused("10 wet, played in hour " + hour, () -> pairThatPlayed(now), STATE,
                    played -> played.weather(true));
            Twins.refused("10 dry, played in hour " + hour, () -> pairThatPlayed(now), STATE,
                    played -> played.weather(false));
        }
        Twins.refused("10 played before", Towns::busy, STATE, town -> town.weather(false));
        OrganCorners later = pairThatPlayed(9);
        later.next();
        Checks.due("10 played on the day before", later.weather(true), 0);
        OrganCorners undone = pairThatPlayed(0);
        undone.undo();
        Checks.due("10 what was played is undone", undone.weather(true), 0);
        Twins.undone("10 wet", Towns::pair, town -> town.weather(true));
        Twins.undone("10 dry as it was", Towns::pair, town -> town.weather(false));
    }

    private static OrganCorners pairWithReason(int reason) {
        OrganCorners town = new OrganCorners();
        town.addCorner(10, 50, 1, 1);
        town.addCorner(30, 50, 1, 1);
        Towns.addOrgans(town, 2);
        if (reason != 1) {
            town.lots();
        }
        if (reason == 2) {
            town.assign(0, NONE);
        } else if (reason == 3) {
            town.barrel(0, 1022);
        } else if (reason == 4) {
            town.play(0, 1);
        } else if (reason == 5) {
            town.next();
        } else if (reason == 6) {
            town.play(1, 0);
        }
        return town;
    }

    /** "tune: 0 to 9", "Throws IllegalStateException if there is a reason against it" */
    private static void play() {
        bounds("11 no organs", Towns::fresh, INDEX, 0, -1, (town, it) -> town.play(it, 9));
        bounds("11 2 organs", Towns::pair, INDEX, 0, 1, (town, it) -> town.play(it, 9));
        bounds("11 5 organs", Towns::full, INDEX, 0, 4, (town, it) -> town.play(it, 9));
        bounds("11 tune", Towns::full, ARGUMENT, 0, 9, (town, it) -> town.play(4, it));
        bounds("11 tune of organ 0", Towns::full, ARGUMENT, 0, 9, (town, it) -> town.play(0, it));
        Checks.due("11 no reason", pairWithReason(0).play(0, 0), 50);
        for (int reason = 1; reason <= 6; reason++) {
            int why = reason;
            Checks.due("11 reason", pairWithReason(reason).whyNot(0, 0), reason);
            Twins.refused("11 reason " + reason, () -> pairWithReason(why), STATE,
                    town -> town.play(0, 0));
        }
        Twins.undone("11 play", Towns::full, town -> town.play(4, 9));
        Twins.undone("11 play of takings 0", RefusalTests::wetCorner, town -> town.play(0, 0));
    }

    /** A corner at which 1 is half of the crowd, which makes takings of 0. */
    private static OrganCorners wetCorner() {
        OrganCorners town = Towns.single(1, 1);
        town.weather(true);
        return town;
    }

    /** "Returns the present hour then." */
    private static void next() {
        Checks.due("12 behind 0", pairInHour(0).next(), 1);
        Checks.due("12 behind 8", pairInHour(8).next(), 9);
        Checks.due("12 behind 9", pairInHour(9).next(), 0);
        Checks.due("12 in a town without anything", Towns.fresh().next(), 1);
        Twins.undone("12 next", Towns::busy, town -> town.next());
        Twins.undone("12 end of a day", RefusalTests::busyInHour9, town -> town.next());
        Twins.undone("12 end of an empty day", () -> pairInHour(9), town -> town.next());
    }

    private static OrganCorners busyInHour9() {
        OrganCorners town = Towns.busy();
        Towns.nextTimes(town, 5);
        return town;
    }

    private static OrganCorners withSigns(int length) {
        OrganCorners town = Towns.pair();
        for (int sign = 0; sign < length; sign++) {
            town.append('~' - sign);
        }
        return town;
    }

    /** "code: the character code, 33 to 126", "Throws IllegalStateException if the buffer has 60
     * characters" */
    private static void append() {
        bounds("13 code", Towns::busy, ARGUMENT, 33, 126, (town, it) -> town.append(it));
        int[] wrong = {0, 10, 32, 127, 128, 255, 256 + 'a', 65536 + 'a'};
        for (int code : wrong) {
            Twins.refused("13 code " + code, Towns::busy, ARGUMENT, town -> town.append(code));
            Twins.refused("13 code " + code + " in a full buffer", Towns::full, ARGUMENT,
                    town -> town.append(code));
        }
        Checks.due("13 the first", Towns.fresh().append(33), 1);
        Checks.due("13 the 59th", withSigns(58).append(126), 59);
        Checks.due("13 the 60th", withSigns(59).append(126), 60);
        Twins.refused("13 the 61st", () -> withSigns(60), STATE, town -> town.append(33));
        Twins.refused("13 the 61st of a row", Towns::full, STATE, town -> town.append('n'));
        OrganCorners again = withSigns(60);
        again.clearBuffer();
        Checks.due("13 behind clearBuffer", again.append(33), 1);
        OrganCorners saved = withSigns(5);
        int before = saved.count(15);
        saved.undo();
        saved.append('x');
        Checks.due("13 not undoable", saved.count(15), before - 1);
    }

    /** "Returns the length that it had." */
    private static void clearBuffer() {
        int[] lengths = {0, 1, 59, 60};
        for (int length : lengths) {
            OrganCorners town = withSigns(length);
            Checks.due("14 length", town.clearBuffer(), length);
            Checks.due("14 empty then", town.clearBuffer(), 0);
            Checks.due("14 no error then", town.firstError(), 0);
        }
        Twins.asked("14 an empty buffer is not changed", Towns::pair, town -> town.clearBuffer());
        OrganCorners saved = Towns.pair();
        saved.undo();
        saved.clearBuffer();
        Checks.due("14 not undoable", saved.count(15), 5);
    }

    /** "Returns the index of the first character that is a syntax error; the length of the buffer
     * if there is none." */
    private static void firstError() {
        Checks.due("15 empty", Towns.fresh().firstError(), 0);
        String[] texts = {"x", "lotx", "wet;dry;next;lots;0:a;x", "0:a;4:k", "wet;5:a", "wet,dry"};
        int[] due = {0, 3, 22, 6, 4, 3};
        for (int i = 0; i < texts.length; i++) {
            OrganCorners town = new OrganCorners();
            Towns.type(town, texts[i]);
            Checks.due("15 " + texts[i], town.firstError(), due[i]);
            Towns.type(town, "x;");
            Checks.due("15 first one of " + texts[i] + "x;", town.firstError(), due[i]);
        }
        Checks.due("15 60 characters without one", Towns.full().firstError(), 60);
        Checks.due("15 the last of 60", lastOfSixty().firstError(), 59);
        asks("15 firstError", town -> town.firstError());
        Twins.asked("15 firstError of an error", RefusalTests::lastOfSixty,
                town -> town.firstError());
    }

    private static OrganCorners lastOfSixty() {
        OrganCorners town = Towns.pair();
        Towns.type(town, "next;next;next;next;next;next;next;next;next;next;next;nextx");
        return town;
    }

    private static OrganCorners pairWithText(String text) {
        OrganCorners town = Towns.pair();
        Towns.type(town, text);
        return town;
    }

    /** "Throws IllegalArgumentException if the buffer is not a complete row of orders", "Undoable,
     * as one call, also if no order is done." */
    private static void run() {
        String[] wrong = {"", ";", "l", "lot", "lots;", ";lots", "lots;;wet", "wet;d", "next;0",
            "next;0:", "0:k", "5:a", "x", "next;next;nexx", "nextnext", "0:a0:b", "NEXT", "next;x"};
        for (String text : wrong) {
            Twins.refused("16 run of \"" + text + "\"", () -> pairWithText(text), ARGUMENT,
                    town -> town.run());
            OrganCorners town = pairWithText(text);
            Checks.dueThrow("16 run of \"" + text + "\"", ARGUMENT, () -> town.run());
            Checks.due("16 the buffer stays", town.clearBuffer(), text.length());
            Checks.due("16 no order is done", town.count(4), 0);
        }
        Twins.refused("16 60 characters, ; the last", Towns::full, ARGUMENT, town -> town.run());
        Twins.refused("16 60 characters, the last wrong", RefusalTests::lastOfSixty, ARGUMENT,
                town -> town.run());
        Twins.refused("16 a row with another one begun", Towns::busy, ARGUMENT, town -> town.run());
        Checks.due("16 one order", pairWithText("next").run(), 1);
        Checks.due("16 none done", pairWithText("2:a").run(), 0);
        OrganCorners most = pairWithText("wet;dry;wet;dry;wet;dry;wet;dry;wet;dry;wet;dry;wet;dry;0:a");
        Checks.due("16 15 orders", most.run(), 15);
        Checks.due("16 the last one", most.organ(0, 8), 0);
        Checks.due("16 cleared", most.clearBuffer(), 0);
        OrganCorners longest = pairWithText(
                "next;next;next;next;next;next;next;next;next;0:a;1:b;dry;wet");
        Checks.due("16 60 characters, up to the 12th", longest.run(), 11);
        Checks.due("16 hour 9", longest.count(4), 9);
        String[] rows = {"next", "2:a", "next;0:c;1:d;next", "0:b;0:c;next", "wet;lots;lots;wet;0:a",
            "0:a;next;next;next;next;next;next;next;next;next;next;lots"};
        for (String row : rows) {
            Twins.undone("16 run of " + row, Towns::pair, town -> Towns.run(town, row));
            OrganCorners town = pairWithText(row);
            town.run();
            Checks.due("16 clears the buffer", town.clearBuffer(), 0);
            Checks.due("16 saves one state", town.undo(), 5);
        }
        Twins.undone("16 run, no state before", Towns::fresh, town -> Towns.run(town, "next;dry"));
    }

    /** "up to the first one whose method would throw an exception" */
    private static void runStopsAtEachOrder() {
        String[] rows = {"next;lots;next", "0:a;lots;next", "0:a;wet;next", "0:a;dry;next",
            "next;2:a;next", "next;4:j;next", "0:a;0:b;next", "0:a;1:a;next", "next;0:a;1:a"};
        int[] due = {1, 1, 1, 1, 1, 1, 1, 1, 2};
        for (int i = 0; i < rows.length; i++) {
            OrganCorners town = Towns.pair();
            Checks.due("16 done of " + rows[i], Towns.run(town, rows[i]), due[i]);
            Checks.due("16 hour behind " + rows[i], town.count(4), rows[i].charAt(0) == 'n' ? 1 : 0);
            Checks.due("16 dry behind " + rows[i], town.count(5), 0);
        }
        for (int reason = 0; reason <= 6; reason++) {
            OrganCorners town = pairWithReason(reason);
            int hour = town.count(4);
            int played = town.count(8);
            Checks.due("16 0:a, reason " + reason, Towns.run(town, "0:a;next"), reason == 0 ? 2 : 0);
            Checks.due("16 hour, reason " + reason, town.count(4), reason == 0 ? 1 : hour);
            Checks.due("16 played, reason " + reason, town.count(8), reason == 0 ? 1 : played);
        }
        OrganCorners letters = Towns.full();
        for (int organ = 0; organ < 5; organ++) {
            for (int tune = 0; tune < 10; tune++) {
                String order = (char) ('0' + organ) + ":" + (char) ('a' + tune);
                Checks.due("16 " + order, Towns.run(letters, order), 1);
                Checks.due("16 tune of " + order, letters.organ(organ, 8), tune);
                letters.undo();
            }
        }
    }

    private static OrganCorners withoutStates() {
        OrganCorners town = Towns.busy();
        while (town.count(15) > 0) {
            town.undo();
        }
        return town;
    }

    /** "Throws IllegalStateException if there is none", "Returns how many saved states are left." */
    private static void undo() {
        Twins.refused("17 none in a new town", Towns::fresh, STATE, town -> town.undo());
        Twins.refused("17 none is left", RefusalTests::withoutStates, STATE, town -> town.undo());
        OrganCorners one = new OrganCorners();
        one.next();
        Checks.due("17 the only one", one.undo(), 0);
        Checks.dueThrow(one, "17 not twice", STATE, () -> one.undo());
        Checks.due("17 five of six", Towns.busy().undo(), 5);
        OrganCorners around = new OrganCorners();
        for (int value = 1; value <= 20; value++) {
            around.set(0, value);
            around.set(0, 50 + value);
            around.undo();
            Checks.due("17 the latest one, time and again", around.setting(0), value);
            Checks.due("17 saved states", around.count(15), Math.min(value, value < 6 ? 6 : 5));
        }
        for (int left = 4; left >= 0; left--) {
            Checks.due("17 left", around.undo(), left);
            Checks.due("17 one by one", around.setting(0), 15 + left);
        }
    }

    /** "Throws IndexOutOfBoundsException if there is no such corner", "Throws
     * IllegalArgumentException if what is not 0 to 5" */
    private static void corner() {
        for (int property = 0; property <= 5; property++) {
            int what = property;
            bounds("18 no corners", Towns::fresh, INDEX, 0, -1, (town, it) -> town.corner(it, what));
            bounds("18 3 corners", Towns::busy, INDEX, 0, 2, (town, it) -> town.corner(it, what));
            bounds("18 10 corners", Towns::full, INDEX, 0, 9, (town, it) -> town.corner(it, what));
            asks("18 corner", town -> town.corner(0, what));
        }
        bounds("18 what", Towns::busy, ARGUMENT, 0, 5, (town, it) -> town.corner(2, it));
    }

    /** "3: the organ that has it, NONE if none has; 4: the tunes that were played there on this
     * day, as a bit mask; 5: the tunes against which reason 6 is there now" */
    private static void cornerAtItsBounds() {
        OrganCorners full = Towns.full();
        Checks.due("18 place of the last", full.corner(9, 0), 99);
        Checks.due("18 crowd of the last", full.corner(9, 1), 90);
        int taken = 0;
        for (int corner = 0; corner < 10; corner++) {
            int organ = full.corner(corner, 3);
            taken += organ == NONE ? 0 : 1;
            Checks.due("18 its organ's corner", organ == NONE ? corner : full.organ(organ, 3), corner);
        }
        Checks.due("18 5 corners are taken", taken, 5);
        OrganCorners day = Towns.single(50, 1);
        Checks.due("18 no tunes yet", day.corner(0, 4), 0);
        Checks.due("18 no reason 6 yet", day.corner(0, 5), 0);
        int mask = 0;
        for (int hour = 0; hour < 10; hour++) {
            day.play(0, hour);
            mask |= 1 << hour;
            Checks.due("18 tunes up to hour " + hour, day.corner(0, 4), mask);
            day.set(1, 9);
            Checks.due("18 heard up to hour " + hour, day.corner(0, 5), mask);
            if (hour < 9) {
                day.next();
            }
        }
        Checks.due("18 all tunes", day.corner(0, 4), 1023);
        day.assign(0, NONE);
        day.barrel(0, 0);
        Checks.due("18 whatever organ there is", day.corner(0, 5), 1023);
        day.next();
        Checks.due("18 no tunes on the next day", day.corner(0, 4), 0);
        Checks.due("18 no reason 6 on the next day", day.corner(0, 5), 0);
    }

    /** "Throws IndexOutOfBoundsException if there is no such organ", "Throws
     * IllegalArgumentException if what is not 0 to 8" */
    private static void organ() {
        for (int property = 0; property <= 8; property++) {
            int what = property;
            organBounds("19 property " + what, (town, it) -> town.organ(it, what));
            asks("19 organ", town -> town.organ(1, what));
        }
        bounds("19 what", Towns::busy, ARGUMENT, 0, 8, (town, it) -> town.organ(1, it));
        OrganCorners town = Towns.single(90, 8);
        Checks.due("19 a crew of all", town.organ(0, 4), 8);
        Checks.due("19 no tune yet", town.organ(0, 8), NONE);
        town.play(0, 9);
        Checks.due("19 tune 9", town.organ(0, 8), 9);
        town.next();
        Checks.due("19 no tune in the next hour", town.organ(0, 8), NONE);
        town.play(0, 0);
        Checks.due("19 tune 0", town.organ(0, 8), 0);
        for (int player = 0; player < 8; player++) {
            town.assign(player, NONE);
        }
        Checks.due("19 no crew", town.organ(0, 4), 0);
    }

    /** "Throws IndexOutOfBoundsException if there is no such player", "Throws
     * IllegalArgumentException if what is not 0 to 4" */
    private static void player() {
        for (int property = 0; property <= 4; property++) {
            int what = property;
            playerBounds("20 property " + what, (town, it) -> town.player(it, what));
            asks("20 player", town -> town.player(2, what));
        }
        bounds("20 what", Towns::busy, ARGUMENT, 0, 4, (town, it) -> town.player(2, it));
        OrganCorners town = Towns.withFund(3, 2);
        Checks.due("20 the second gets nothing", town.ifEnded(1), 0);
        Towns.nextTimes(town, 10);
        Checks.due("20 out of the fund, the first", town.player(0, 3), 3);
        Checks.due("20 out of the fund, the second", town.player(1, 3), 0);
        Checks.due("20 an hour so far", town.player(0, 4), 1);
        Checks.due("20 none on this day", town.player(0, 1), 0);
    }

    /** "Throws IndexOutOfBoundsException if there is no such player or organ" */
    private static void hours() {
        playerBounds("21 player", (town, it) -> town.hours(it, 0));
        organBounds("21 organ", (town, it) -> town.hours(0, it));
        bounds("21 the last player", Towns::full, INDEX, 0, 4, (town, it) -> town.hours(7, it));
        bounds("21 the last organ", Towns::full, INDEX, 0, 7, (town, it) -> town.hours(it, 4));
        Twins.refused("21 neither", Towns::busy, INDEX, town -> town.hours(3, 2));
        asks("21 hours", town -> town.hours(1, 1));
        OrganCorners organless = new OrganCorners();
        organless.addPlayer();
        Checks.dueThrow(organless, "21 no organs", INDEX, () -> organless.hours(0, 0));
    }

    /** "Throws IllegalArgumentException if what is not 0 to 15" */
    private static void count() {
        bounds("22 what", Towns::fresh, ARGUMENT, 0, 15, (town, it) -> town.count(it));
        bounds("22 what", Towns::busy, ARGUMENT, 0, 15, (town, it) -> town.count(it));
        for (int number = 0; number <= 15; number++) {
            int what = number;
            asks("22 count", town -> town.count(what));
        }
        OrganCorners full = Towns.full();
        Checks.due("22 10 corners", full.count(0), 10);
        Checks.due("22 5 organs", full.count(1), 5);
        Checks.due("22 8 players", full.count(2), 8);
        Checks.due("22 6 states", full.count(15), 6);
    }

    /** "Throws IndexOutOfBoundsException if there is no such setting" */
    private static void setting() {
        bounds("23 setting", Towns::fresh, INDEX, 0, 4, (town, it) -> town.setting(it));
        bounds("23 setting", Towns::busy, INDEX, 0, 4, (town, it) -> town.setting(it));
        for (int number = 0; number <= 4; number++) {
            int which = number;
            asks("23 setting", town -> town.setting(which));
        }
    }

    /** "Returns the reason, 0 if there is none." */
    private static void whyNot() {
        organBounds("24 organ", (town, it) -> town.whyNot(it, 0));
        bounds("24 tune", Towns::busy, ARGUMENT, 0, 9, (town, it) -> town.whyNot(1, it));
        bounds("24 tune of the last", Towns::full, ARGUMENT, 0, 9, (town, it) -> town.whyNot(4, it));
        for (int reason = 0; reason <= 6; reason++) {
            int why = reason;
            Checks.due("24 reason", pairWithReason(reason).whyNot(0, 0), reason);
            Twins.asked("24 whyNot", () -> pairWithReason(why), town -> town.whyNot(0, 0));
        }
        asks("24 whyNot", town -> town.whyNot(0, 9));
    }

    /** "Returns the takings; NONE if there is a reason against each tune." */
    private static void ifPlayed() {
        organBounds("25 organ", (town, it) -> town.ifPlayed(it));
        int[] due = {50, NONE, NONE, 50, NONE, NONE, 40};
        for (int reason = 0; reason <= 6; reason++) {
            Checks.due("25 reason " + reason, pairWithReason(reason).ifPlayed(0), due[reason]);
        }
        for (int tune = 0; tune < 10; tune++) {
            OrganCorners town = Towns.pair();
            town.barrel(0, 1 << tune);
            Checks.due("25 its one tune", town.ifPlayed(0), 50);
            town.play(1, tune);
            Checks.due("25 reason 6 against its one tune", town.ifPlayed(0), NONE);
            town.barrel(0, 1 << tune | 1 << (tune + 1) % 10);
            Checks.due("25 none against another one", town.ifPlayed(0), 40);
            town.barrel(0, 0);
            Checks.due("25 no tunes", town.ifPlayed(0), NONE);
        }
        Checks.due("25 takings 0 are not NONE", wetCorner().ifPlayed(0), 0);
        asks("25 ifPlayed", town -> town.ifPlayed(0));
    }

    /** "of several the lowest one; NONE if it can play none" */
    private static void kindestTune() {
        organBounds("26 organ", (town, it) -> town.kindestTune(it));
        int[] due = {0, NONE, NONE, 1, NONE, NONE, 1};
        for (int reason = 0; reason <= 6; reason++) {
            Checks.due("26 reason " + reason, pairWithReason(reason).kindestTune(0), due[reason]);
        }
        for (int tune = 0; tune < 10; tune++) {
            OrganCorners town = Towns.pair();
            town.barrel(0, 1 << tune);
            Checks.due("26 its one tune", town.kindestTune(0), tune);
            town.barrel(0, 1023 & -1 << tune);
            Checks.due("26 the lowest of like ones", town.kindestTune(0), tune);
            town.barrel(0, 1023);
            town.barrel(1, 1023 & ~(1 << tune));
            Checks.due("26 the only one that hinders none", town.kindestTune(0), tune);
        }
        Checks.due("26 without others", Towns.single(1, 1).kindestTune(0), 0);
        asks("26 kindestTune", town -> town.kindestTune(0));
    }

    /** "Throws IllegalArgumentException if what is not 0 or 1", "(0 and the mask 0 if none can
     * play)", "of several such sets the one whose mask is the least" */
    private static void most() {
        bounds("27 what", Towns::fresh, ARGUMENT, 0, 1, (town, it) -> town.most(it));
        bounds("27 what", Towns::busy, ARGUMENT, 0, 1, (town, it) -> town.most(it));
        for (int what = 0; what <= 1; what++) {
            Checks.due("27 no organs", Towns.fresh().most(what), 0);
            Checks.due("27 takings 0", wetCorner().most(what), 0);
            OrganCorners all = Towns.pair();
            all.play(0, 0);
            all.play(1, 1);
            Checks.due("27 none can play", all.most(what), 0);
        }
        OrganCorners five = Towns.taken(90, 0, 25, 50, 75, 99);
        five.set(0, 0);
        Checks.due("27 all five, none near", five.most(0), 450);
        Checks.due("27 the mask of all", five.most(1), 31);
        five.set(0, 99);
        Checks.due("27 all five, all near", five.most(0), 90 + 72 + 54 + 36 + 18);
        Checks.due("27 the mask of all, near", five.most(1), 31);
        for (int organ = 0; organ < 5; organ++) {
            five.barrel(organ, 512);
        }
        Checks.due("27 one tune for all", five.most(0), 90);
        Checks.due("27 the least mask", five.most(1), 1);
        five.barrel(0, 0);
        Checks.due("27 the least mask without organ 0", five.most(1), 2);
        five.barrel(4, 1);
        Checks.due("27 two tunes", five.most(0), 162);
        Checks.due("27 the least mask with organ 4", five.most(1), 18);
        asks("27 most", town -> town.most(0));
        asks("27 most", town -> town.most(1));
    }

    /** "Returns what the player would get out of pots and the fund." */
    private static void ifEnded() {
        playerBounds("28 player", (town, it) -> town.ifEnded(it));
        Checks.due("28 nothing to get", Towns.full().ifEnded(7), 0);
        int players = Towns.busy().count(2);
        for (int player = 0; player < players; player++) {
            OrganCorners town = Towns.busy();
            int before = town.player(player, 2);
            int due = town.ifEnded(player);
            Towns.nextTimes(town, 6);
            Checks.due("28 as the day ends", town.player(player, 2) - before, due);
            Checks.due("28 nothing behind it", town.ifEnded(player), 0);
        }
        asks("28 ifEnded", town -> town.ifEnded(0));
    }

    /** "count(14), as a double, divided by count(9); 0.0 if that is 0" */
    private static void playersShare() {
        Checks.dueExactly("29 nothing taken", Towns.fresh().playersShare(), 0.0);
        OrganCorners zero = wetCorner();
        zero.play(0, 0);
        Checks.dueExactly("29 takings 0", zero.playersShare(), 0.0);
        OrganCorners third = Towns.single(3, 1);
        third.set(2, 50);
        third.play(0, 0);
        Checks.dueExactly("29 nothing shared yet", third.playersShare(), 0.0);
        Towns.nextTimes(third, 10);
        Checks.dueExactly("29 two thirds", third.playersShare(), 2.0 / 3.0);
        OrganCorners all = Towns.single(90, 1);
        all.set(2, 0);
        all.play(0, 0);
        Towns.nextTimes(all, 10);
        Checks.dueExactly("29 all", all.playersShare(), 1.0);
        asks("29 playersShare", town -> town.playersShare());
    }

    /** "The hash starts at 2297.", "the length of the buffer and each of its character codes" */
    private static void digest() {
        asks("30 digest", town -> town.digest());
        for (int length = 0; length <= 60; length++) {
            StringBuilder text = new StringBuilder();
            for (int sign = 0; sign < length; sign++) {
                text.append((char) ('~' - sign));
            }
            dueDigest(withSigns(length), withSigns(length), text.toString());
        }
        dueDigest(Towns.fresh(), Towns.fresh(), "");
        dueDigest(Towns.busy(), Towns.busy(), "next;1:");
        dueDigest(Towns.full(), Towns.full(),
                "next;0:a;1:b;2:c;3:d;4:e;next;0:f;1:g;2:h;3:i;4:j;next;lots;");
        dueDigest(fullNextDay(), fullNextDay(),
                "next;0:a;1:b;2:c;3:d;4:e;next;0:f;1:g;2:h;3:i;4:j;next;lots;");
        for (int fund = 0; fund <= 45; fund++) {
            dueDigest(afterWetDay(fund), afterWetDay(fund), "");
        }
    }

    /** Towns whose players had different shares of the takings, 0 and 1 among them. */
    private static OrganCorners afterWetDay(int fund) {
        OrganCorners town = Towns.withFund(fund, 1);
        town.set(4, fund == 45 ? 50 : fund % 7);
        Towns.nextTimes(town, 10);
        return town;
    }

    private static void dueDigest(OrganCorners town, OrganCorners twin, String text) {
        Checks.due("30 by its list", town.digest(), listed(twin, text));
    }

    /** The hash of the document's list, from the answers of a town with this text. */
    private static long listed(OrganCorners town, String text) {
        long[] hash = {2297};
        int corners = town.count(0);
        int organs = town.count(1);
        int players = town.count(2);
        for (int what = 0; what <= 15; what++) {
            mix(hash, town.count(what));
        }
        for (int which = 0; which <= 4; which++) {
            mix(hash, town.setting(which));
        }
        for (int corner = 0; corner < corners; corner++) {
            for (int what = 0; what <= 5; what++) {
                mix(hash, town.corner(corner, what));
            }
        }
        for (int organ = 0; organ < organs; organ++) {
            for (int what = 0; what <= 8; what++) {
                mix(hash, town.organ(organ, what));
            }
            for (int tune = 0; tune <= 9; tune++) {
                mix(hash, town.whyNot(organ, tune));
            }
            mix(hash, town.ifPlayed(organ));
            mix(hash, town.kindestTune(organ));
        }
        for (int player = 0; player < players; player++) {
            for (int what = 0; what <= 4; what++) {
                mix(hash, town.player(player, what));
            }
            for (int organ = 0; organ < organs; organ++) {
                mix(hash, town.hours(player, organ));
            }
            mix(hash, town.ifEnded(player));
        }
        mix(hash, town.most(0));
        mix(hash, town.most(1));
        mix(hash, Double.doubleToLongBits(town.playersShare()));
        mix(hash, text.length());
        for (int sign = 0; sign < text.length(); sign++) {
            mix(hash, text.charAt(sign));
        }
        return hash[0];
    }

    private static void mix(long[] hash, long value) {
        hash[0] = 31 * hash[0] + value;
    }
}
