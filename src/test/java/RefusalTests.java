/**
 * The promises 1 to 17, of the calls that change something: the last argument that is allowed and
 * the first one that is not, each refused call and its exception, and that it changes nothing.
 */
public final class RefusalTests {
    private static final Class<IllegalArgumentException> ARGUMENT = IllegalArgumentException.class;
    private static final Class<IllegalStateException> STATE = IllegalStateException.class;
    private static final Class<IndexOutOfBoundsException> INDEX = IndexOutOfBoundsException.class;
    private static final int NONE = OrganCorners.NONE;

    private RefusalTests() {
    }

    public static void main(String[] args) {
        newObject();
        addCorner();
        addOrgan();
        addPlayer();
        permit();
        barrel();
        assign();
        set();
        lots();
        weather();
        play();
        next();
        append();
        clearBuffer();
        firstError();
        run();
        runStopsAtEachOrder();
        undo();
        Checks.end("RefusalTests");
    }

    /** "Creates a town without corners, organs and players, with an empty buffer." */
    private static void newObject() {
        OrganCorners town = new OrganCorners();
        for (int what = 0; what <= 2; what++) {
            Checks.due("1 none", town.count(what), 0);
        }
        Checks.due("1 no saved states", town.count(15), 0);
        Checks.due("1 empty buffer", town.clearBuffer(), 0);
        Twins.refused("1 no corner 0", Towns::fresh, INDEX, fresh -> fresh.corner(0, 0));
        Twins.refused("1 no organ 0", Towns::fresh, INDEX, fresh -> fresh.organ(0, 0));
        Twins.refused("1 no player 0", Towns::fresh, INDEX, fresh -> fresh.player(0, 0));
        OrganCorners other = new OrganCorners();
        other.addPlayer();
        other.append('x');
        Checks.due("1 another object's players", town.count(2), 0);
        Checks.due("1 another object's buffer", town.clearBuffer(), 0);
    }

    /** "place: 0 to 99", "crowd: 1 to 90", "first: ... 0 to 9", "quiet: ... 0 to 9", "Throws
     * IllegalStateException if there are 10 corners, or one at this place" */
    private static void addCorner() {
        Bounds.of("2 place", Towns::busy, ARGUMENT, 0, 99,
                (town, it) -> town.addCorner(it, 5, 0, 0));
        Bounds.of("2 crowd", Towns::busy, ARGUMENT, 1, 90,
                (town, it) -> town.addCorner(5, it, 0, 0));
        Bounds.of("2 first", Towns::busy, ARGUMENT, 0, 9,
                (town, it) -> town.addCorner(5, 5, it, 0));
        Bounds.of("2 quiet", Towns::busy, ARGUMENT, 0, 9,
                (town, it) -> town.addCorner(5, 5, 0, it));
        int[] places = {10, 30, 80};
        for (int place : places) {
            Twins.refused("2 one at " + place, Towns::busy, STATE,
                    town -> town.addCorner(place, 5, 0, 0));
            Checks.due("2 none below", Towns.busy().addCorner(place - 1, 5, 0, 0), 3);
            Checks.due("2 none above", Towns.busy().addCorner(place + 1, 5, 0, 0), 3);
        }
        OrganCorners town = new OrganCorners();
        for (int corner = 0; corner < 9; corner++) {
            town.addCorner(corner, 1, 0, 0);
        }
        Checks.due("2 the tenth", town.addCorner(99, 90, 9, 9), 9);
        Twins.refused("2 the eleventh", Towns::full, STATE, full -> full.addCorner(1, 5, 0, 0));
        Twins.refused("2 eleventh at a place that is taken", Towns::full, STATE,
                full -> full.addCorner(0, 5, 0, 0));
        town.undo();
        Checks.due("2 a place is free behind undo", town.addCorner(99, 1, 0, 0), 9);
        Twins.undone("2 addCorner", Towns::busy, busy -> busy.addCorner(99, 90, 9, 9));
    }

    /** "percent: the owner's percent, 0 to 50", "Throws IllegalStateException if there are 5
     * organs" */
    private static void addOrgan() {
        Bounds.of("3 percent", Towns::busy, ARGUMENT, 0, 50, (town, it) -> town.addOrgan(it));
        OrganCorners town = Towns.busy();
        Checks.due("3 percent 0", town.addOrgan(0), 2);
        Checks.due("3 percent 50", town.addOrgan(50), 3);
        Checks.due("3 the fifth", town.addOrgan(1), 4);
        Checks.due("3 is 0", town.organ(2, 0), 0);
        Checks.due("3 is 50", town.organ(3, 0), 50);
        Checks.dueThrow(town, "3 the sixth", STATE, () -> town.addOrgan(1));
        Twins.refused("3 the sixth", Towns::full, STATE, full -> full.addOrgan(50));
        Twins.undone("3 addOrgan", Towns::busy, busy -> busy.addOrgan(50));
    }

    /** "Throws IllegalStateException if there are 8 players" */
    private static void addPlayer() {
        OrganCorners town = Towns.busy();
        for (int player = 3; player < 8; player++) {
            Checks.due("4 player", town.addPlayer(), player);
        }
        Checks.dueThrow(town, "4 the ninth", STATE, () -> town.addPlayer());
        Twins.refused("4 the ninth", Towns::full, STATE, full -> full.addPlayer());
        Twins.undone("4 addPlayer", Towns::busy, busy -> busy.addPlayer());
    }

    /** "Throws IndexOutOfBoundsException if there is no such organ", "Returns how many organs have
     * a permit then.", "(its corner stays on this day)" */
    private static void permit() {
        Bounds.ofOrgans("5 given", (town, it) -> town.permit(it, true));
        Bounds.ofOrgans("5 taken", (town, it) -> town.permit(it, false));
        OrganCorners town = Towns.full();
        for (int organ = 0; organ < 5; organ++) {
            Checks.due("5 taken from " + organ, town.permit(organ, false), 4 - organ);
        }
        Checks.due("5 taken from none", town.permit(4, false), 0);
        for (int organ = 0; organ < 5; organ++) {
            Checks.due("5 given to " + organ, town.permit(organ, true), 1 + organ);
        }
        Checks.due("5 given to all", town.permit(0, true), 5);
        OrganCorners stays = Towns.pair();
        stays.permit(0, false);
        Checks.due("5 its corner stays", stays.organ(0, 3), 0);
        Checks.due("5 it stays at its corner", stays.corner(0, 3), 0);
        Checks.due("5 it plays on", stays.play(0, 0), 50);
        Towns.nextTimes(stays, 10);
        Checks.due("5 no lot on the next day", stays.lots(), 1);
        Checks.due("5 no corner on the next day", stays.organ(0, 3), NONE);
        Twins.undone("5 permit taken", Towns::busy, busy -> busy.permit(1, false));
        Twins.undone("5 permit as it was", Towns::busy, busy -> busy.permit(1, true));
    }

    /** "tunes: the tunes on it, as a bit mask, 0 to 1023", "Returns the tunes that were on the
     * barrel before." */
    private static void barrel() {
        Bounds.ofOrgans("6 organ", (town, it) -> town.barrel(it, 0));
        Bounds.of("6 tunes", Towns::busy, ARGUMENT, 0, 1023, (town, it) -> town.barrel(1, it));
        OrganCorners town = Towns.full();
        Checks.due("6 all tunes before", town.barrel(4, 0), 1023);
        Checks.due("6 none before", town.barrel(4, 512), 0);
        Checks.due("6 the last before", town.barrel(4, 1), 512);
        Checks.due("6 the first", town.organ(4, 2), 1);
        Checks.due("6 no other barrel", town.organ(3, 2), 1023);
        Twins.undone("6 barrel", Towns::busy, busy -> busy.barrel(1, 0));
        Twins.undone("6 barrel as it was", Towns::busy, busy -> busy.barrel(1, 1023));
    }

    /** "organ: the number of the organ; NONE: none", "Throws IndexOutOfBoundsException if there is
     * no such player or organ", "(The hours that the player has stay.)" */
    private static void assign() {
        Bounds.ofPlayers("7 player to none", (town, it) -> town.assign(it, NONE));
        Bounds.of("7 player to an organ", Towns::busy, INDEX, 0, 2,
                (town, it) -> town.assign(it, 1));
        Bounds.of("7 organ", Towns::busy, INDEX, NONE, 1, (town, it) -> town.assign(2, it));
        Bounds.of("7 organ of 5", Towns::full, INDEX, NONE, 4, (town, it) -> town.assign(7, it));
        Twins.refused("7 neither", Towns::busy, INDEX, town -> town.assign(3, 2));
        OrganCorners alone = new OrganCorners();
        alone.addPlayer();
        Checks.dueThrow(alone, "7 no organs", INDEX, () -> alone.assign(0, 0));
        Checks.due("7 none to none", alone.assign(0, NONE), NONE);
        OrganCorners town = Towns.full();
        Checks.due("7 from 0", town.assign(0, 4), 0);
        Checks.due("7 from the last", town.assign(0, NONE), 4);
        Checks.due("7 from none", town.assign(0, 0), NONE);
        Checks.due("7 to the same", town.assign(0, 0), 0);
        OrganCorners played = Towns.pair();
        played.play(0, 0);
        played.assign(0, NONE);
        Checks.due("7 the hours stay", played.hours(0, 0), 1);
        played.assign(0, 1);
        Checks.due("7 the hours stay, in another crew", played.hours(0, 0), 1);
        Checks.due("7 the hours of the day stay", played.player(0, 1), 1);
        Checks.due("7 none at the other organ", played.hours(0, 1), 0);
        Towns.nextTimes(played, 10);
        Checks.due("7 the pot of the former organ", played.player(0, 2), 40);
        Twins.undone("7 assign", Towns::busy, busy -> busy.assign(0, 1));
        Twins.undone("7 assign to none", Towns::busy, busy -> busy.assign(2, NONE));
        Twins.undone("7 assign to the same", Towns::busy, busy -> busy.assign(0, 0));
    }

    /** "Throws IndexOutOfBoundsException if there is no such setting", "Throws
     * IllegalArgumentException if value is out of range" */
    private static void set() {
        Bounds.of("8 setting", Towns::busy, INDEX, 0, 4, (town, it) -> town.set(it, 0));
        int[] greatest = {99, 9, 50, 100, 50};
        for (int which = 0; which < 5; which++) {
            int setting = which;
            Bounds.of("8 value of " + which, Towns::busy, ARGUMENT, 0, greatest[which],
                    (town, it) -> town.set(setting, it));
            Twins.undone("8 set " + which, Towns::busy, town -> town.set(setting, 1));
        }
        Twins.undone("8 set as it was", Towns::busy, town -> town.set(0, 20));
    }

    /** "Throws IllegalStateException if the hour is not 0, or something was played on this day" */
    private static void lots() {
        for (int hour = 1; hour < 10; hour++) {
            int now = hour;
            Twins.refused("9 hour " + hour, () -> Towns.pairInHour(now), STATE,
                    town -> town.lots());
        }
        Twins.refused("9 played in hour 0", () -> Towns.pairThatPlayed(0), STATE,
                town -> town.lots());
        Twins.refused("9 played in hour 3", () -> Towns.pairThatPlayed(3), STATE,
                town -> town.lots());
        Twins.refused("9 played before", Towns::busy, STATE, town -> town.lots());
        Checks.due("9 hour 0", Towns.pair().lots(), 2);
        Checks.due("9 hour 0 of the next day", Towns.pairInHour(10).lots(), 2);
        OrganCorners town = Towns.pairThatPlayed(9);
        town.next();
        Checks.due("9 played on the day before", town.lots(), 2);
        OrganCorners undone = Towns.pairThatPlayed(0);
        undone.undo();
        Checks.due("9 what was played is undone", undone.lots(), 2);
        Checks.due("9 none has a corner", Towns.fresh().lots(), 0);
        Checks.due("9 all have a corner", Towns.fullNextDay().lots(), 5);
        Twins.undone("9 lots", Towns::pair, pair -> pair.lots());
        Twins.undone("9 lots without corners", Towns::fresh, fresh -> fresh.lots());
        Twins.undone("9 lots in a full town", Towns::fullNextDay, full -> full.lots());
    }

    /** "Throws IllegalStateException if something was played on this day", "Returns 1 if it was
     * wet, otherwise 0." */
    private static void weather() {
        for (int hour = 0; hour < 10; hour++) {
            int now = hour;
            OrganCorners town = Towns.pairInHour(hour);
            Checks.due("10 nothing played, hour " + hour, town.weather(true), 0);
            Checks.due("10 was wet, hour " + hour, town.weather(false), 1);
            Twins.refused("10 wet, played in hour " + hour, () -> Towns.pairThatPlayed(now), STATE,
                    played -> played.weather(true));
            Twins.refused("10 dry, played in hour " + hour, () -> Towns.pairThatPlayed(now), STATE,
                    played -> played.weather(false));
        }
        Twins.refused("10 played before", Towns::busy, STATE, town -> town.weather(false));
        OrganCorners later = Towns.pairThatPlayed(9);
        later.next();
        Checks.due("10 played on the day before", later.weather(true), 0);
        OrganCorners undone = Towns.pairThatPlayed(0);
        undone.undo();
        Checks.due("10 what was played is undone", undone.weather(true), 0);
        Twins.undone("10 wet", Towns::pair, town -> town.weather(true));
        Twins.undone("10 dry as it was", Towns::pair, town -> town.weather(false));
    }

    /** "tune: 0 to 9", "Throws IllegalStateException if there is a reason against it" */
    private static void play() {
        Bounds.of("11 no organs", Towns::fresh, INDEX, 0, -1, (town, it) -> town.play(it, 9));
        Bounds.of("11 2 organs", Towns::pair, INDEX, 0, 1, (town, it) -> town.play(it, 9));
        Bounds.of("11 5 organs", Towns::full, INDEX, 0, 4, (town, it) -> town.play(it, 9));
        Bounds.of("11 tune", Towns::full, ARGUMENT, 0, 9, (town, it) -> town.play(4, it));
        Bounds.of("11 tune of organ 0", Towns::full, ARGUMENT, 0, 9,
                (town, it) -> town.play(0, it));
        Checks.due("11 no reason", Towns.pairWithReason(0).play(0, 0), 50);
        for (int reason = 1; reason <= 6; reason++) {
            int why = reason;
            Checks.due("11 reason", Towns.pairWithReason(reason).whyNot(0, 0), reason);
            Twins.refused("11 reason " + reason, () -> Towns.pairWithReason(why), STATE,
                    town -> town.play(0, 0));
        }
        Twins.undone("11 play", Towns::full, town -> town.play(4, 9));
        Twins.undone("11 play of an owner of 50", Towns::halfIsOwners,
                town -> town.play(0, 9));
        Twins.undone("11 play of takings 0", Towns::wetCorner, town -> town.play(0, 0));
    }

    /** "Returns the present hour then." */
    private static void next() {
        Checks.due("12 behind 0", Towns.pairInHour(0).next(), 1);
        Checks.due("12 behind 8", Towns.pairInHour(8).next(), 9);
        Checks.due("12 behind 9", Towns.pairInHour(9).next(), 0);
        Checks.due("12 in a town without anything", Towns.fresh().next(), 1);
        Twins.undone("12 next", Towns::busy, town -> town.next());
        Twins.undone("12 end of a day", Towns::busyInHour9, town -> town.next());
        Twins.undone("12 end of an empty day", () -> Towns.pairInHour(9), town -> town.next());
    }

    /** "The buffer has at most 60 characters.", "code: the character code, 33 to 126", "Throws
     * IllegalStateException if the buffer has 60 characters" */
    private static void append() {
        Bounds.of("13 code", Towns::busy, ARGUMENT, 33, 126, (town, it) -> town.append(it));
        int[] wrong = {0, 10, 32, 127, 128, 255, 256 + 'a', 65536 + 'a'};
        for (int code : wrong) {
            Twins.refused("13 code " + code, Towns::busy, ARGUMENT, town -> town.append(code));
            Twins.refused("13 code " + code + " in a full buffer", Towns::full, ARGUMENT,
                    town -> town.append(code));
        }
        Checks.due("13 the first", Towns.fresh().append(33), 1);
        Checks.due("13 the 59th", Towns.withSigns(58).append(126), 59);
        Checks.due("13 the 60th", Towns.withSigns(59).append(126), 60);
        Twins.refused("13 the 61st", () -> Towns.withSigns(60), STATE, town -> town.append(33));
        Twins.refused("13 the 61st of a row", Towns::full, STATE, town -> town.append('n'));
        OrganCorners again = Towns.withSigns(60);
        again.clearBuffer();
        Checks.due("13 behind clearBuffer", again.append(33), 1);
        OrganCorners saved = Towns.withSigns(5);
        int before = saved.count(15);
        saved.undo();
        saved.append('x');
        Checks.due("13 not undoable", saved.count(15), before - 1);
    }

    /** "Returns the length that it had." */
    private static void clearBuffer() {
        int[] lengths = {0, 1, 59, 60};
        for (int length : lengths) {
            OrganCorners town = Towns.withSigns(length);
            Checks.due("14 length", town.clearBuffer(), length);
            Checks.due("14 empty then", town.clearBuffer(), 0);
            Checks.due("14 no error then", town.firstError(), 0);
        }
        Twins.asked("14 an empty buffer is not changed", Towns::pair, town -> town.clearBuffer());
        OrganCorners saved = Towns.pair();
        saved.undo();
        saved.clearBuffer();
        Checks.due("14 not undoable", saved.count(15), 5);
    }

    /** "Returns the index of the first character that is a syntax error; the length of the buffer
     * if there is none." */
    private static void firstError() {
        Checks.due("15 empty", Towns.fresh().firstError(), 0);
        String[] texts = {"x", "lotx", "wet;dry;next;lots;0:a;x", "0:a;4:k", "wet;5:a", "wet,dry"};
        int[] due = {0, 3, 22, 6, 4, 3};
        for (int i = 0; i < texts.length; i++) {
            OrganCorners town = new OrganCorners();
            Towns.type(town, texts[i]);
            Checks.due("15 " + texts[i], town.firstError(), due[i]);
            Towns.type(town, "x;");
            Checks.due("15 first one of " + texts[i] + "x;", town.firstError(), due[i]);
        }
        Checks.due("15 60 characters without one", Towns.full().firstError(), 60);
        Checks.due("15 the last of 60", Towns.lastOfSixty().firstError(), 59);
        Bounds.asks("15 firstError", town -> town.firstError());
        Twins.asked("15 firstError of an error", Towns::lastOfSixty,
                town -> town.firstError());
    }

    /** "Throws IllegalArgumentException if the buffer is not a complete row of orders", "Undoable,
     * as one call, also if no order is done." */
    private static void run() {
        String[] wrong = {"", ";", "l", "lot", "lots;", ";lots", "lots;;wet", "wet;d", "next;0",
            "next;0:", "0:k", "5:a", "x", "next;next;nexx", "nextnext", "0:a0:b", "NEXT", "next;x"};
        for (String text : wrong) {
            Twins.refused("16 run of \"" + text + "\"", () -> Towns.pairWithText(text), ARGUMENT,
                    town -> town.run());
            OrganCorners town = Towns.pairWithText(text);
            Checks.dueThrow("16 run of \"" + text + "\"", ARGUMENT, () -> town.run());
            Checks.due("16 the buffer stays", town.clearBuffer(), text.length());
            Checks.due("16 no order is done", town.count(4), 0);
        }
        Twins.refused("16 60 characters, ; the last", Towns::full, ARGUMENT, town -> town.run());
        Twins.refused("16 60 characters, the last wrong", Towns::lastOfSixty, ARGUMENT,
                town -> town.run());
        Twins.refused("16 a row with another one begun", Towns::busy, ARGUMENT, town -> town.run());
        Checks.due("16 one order", Towns.pairWithText("next").run(), 1);
        Checks.due("16 none done", Towns.pairWithText("2:a").run(), 0);
        OrganCorners most = Towns.pairWithText(
                "wet;dry;wet;dry;wet;dry;wet;dry;wet;dry;wet;dry;wet;dry;0:a");
        Checks.due("16 15 orders", most.run(), 15);
        Checks.due("16 the last one", most.organ(0, 8), 0);
        Checks.due("16 cleared", most.clearBuffer(), 0);
        OrganCorners longest = Towns.pairWithText(
                "next;next;next;next;next;next;next;next;next;0:a;1:b;dry;wet");
        Checks.due("16 60 characters, up to the 12th", longest.run(), 11);
        Checks.due("16 hour 9", longest.count(4), 9);
        String[] rows = {"next", "2:a", "next;0:c;1:d;next", "0:b;0:c;next",
                "wet;lots;lots;wet;0:a",
            "0:a;next;next;next;next;next;next;next;next;next;next;lots"};
        for (String row : rows) {
            Twins.undone("16 run of " + row, Towns::pair, town -> Towns.run(town, row));
            OrganCorners town = Towns.pairWithText(row);
            town.run();
            Checks.due("16 clears the buffer", town.clearBuffer(), 0);
            Checks.due("16 saves one state", town.undo(), 5);
        }
        Twins.undone("16 run, no state before", Towns::fresh, town -> Towns.run(town, "next;dry"));
    }

    /** "up to the first one whose method would throw an exception" */
    private static void runStopsAtEachOrder() {
        String[] rows = {"next;lots;next", "0:a;lots;next", "0:a;wet;next", "0:a;dry;next",
            "next;2:a;next", "next;4:j;next", "0:a;0:b;next", "0:a;1:a;next", "next;0:a;1:a"};
        int[] due = {1, 1, 1, 1, 1, 1, 1, 1, 2};
        for (int i = 0; i < rows.length; i++) {
            OrganCorners town = Towns.pair();
            Checks.due("16 done of " + rows[i], Towns.run(town, rows[i]), due[i]);
            Checks.due("16 hour behind " + rows[i], town.count(4),
                    rows[i].charAt(0) == 'n' ? 1 : 0);
            Checks.due("16 dry behind " + rows[i], town.count(5), 0);
        }
        OrganCorners all = Towns.withCorners(10, 30);
        Towns.addOrgans(all, 2);
        Checks.due("16 none of these stops it", Towns.run(all, "wet;lots;0:a;1:b;next;0:c"), 6);
        Checks.due("16 wet is done", all.count(5), 1);
        Checks.due("16 lots are drawn", all.corner(1, 3), 1);
        Checks.due("16 three tunes are played", all.count(7), 3);
        OrganCorners weather = Towns.withFund(1, 1);
        Checks.due("16 weather", Towns.run(weather, "dry;wet;dry"), 3);
        Checks.due("16 dry is done", weather.count(5), 0);
        for (int reason = 0; reason <= 6; reason++) {
            OrganCorners town = Towns.pairWithReason(reason);
            int hour = town.count(4);
            int played = town.count(8);
            Checks.due("16 0:a, reason " + reason, Towns.run(town, "0:a;next"),
                    reason == 0 ? 2 : 0);
            Checks.due("16 hour, reason " + reason, town.count(4), reason == 0 ? 1 : hour);
            Checks.due("16 played, reason " + reason, town.count(8), reason == 0 ? 1 : played);
        }
        OrganCorners letters = Towns.full();
        for (int organ = 0; organ < 5; organ++) {
            for (int tune = 0; tune < 10; tune++) {
                String order = (char) ('0' + organ) + ":" + (char) ('a' + tune);
                Checks.due("16 " + order, Towns.run(letters, order), 1);
                Checks.due("16 tune of " + order, letters.organ(organ, 8), tune);
                letters.undo();
            }
        }
    }

    /**
     * "Throws IllegalStateException if there is none", "Returns how many saved states are left."
     */
    private static void undo() {
        Twins.refused("17 none in a new town", Towns::fresh, STATE, town -> town.undo());
        Twins.refused("17 none is left", Towns::withoutStates, STATE, town -> town.undo());
        OrganCorners one = new OrganCorners();
        one.next();
        Checks.due("17 the only one", one.undo(), 0);
        Checks.dueThrow(one, "17 not twice", STATE, () -> one.undo());
        Checks.due("17 five of six", Towns.busy().undo(), 5);
        OrganCorners around = new OrganCorners();
        for (int value = 1; value <= 20; value++) {
            around.set(0, value);
            around.set(0, 50 + value);
            around.undo();
            Checks.due("17 the latest one, time and again", around.setting(0), value);
            Checks.due("17 saved states", around.count(15), Math.min(value, value < 6 ? 6 : 5));
        }
        for (int left = 4; left >= 0; left--) {
            Checks.due("17 left", around.undo(), left);
            Checks.due("17 one by one", around.setting(0), 15 + left);
        }
    }
}
