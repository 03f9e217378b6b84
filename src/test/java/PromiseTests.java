/** Answers worked out by hand from the document, promise by promise. */
public final class PromiseTests {
    private static final Class<IllegalArgumentException> ARGUMENT = IllegalArgumentException.class;
    private static final Class<IllegalStateException> STATE = IllegalStateException.class;
    private static final Class<IndexOutOfBoundsException> INDEX = IndexOutOfBoundsException.class;
    private static final int NONE = OrganCorners.NONE;
    private static final int[] EXTREMES = {Integer.MIN_VALUE, -1, Integer.MAX_VALUE};

    private PromiseTests() {
    }

    public static void main(String[] args) {
        newObject();
        addCorner();
        addOrgan();
        addPlayer();
        permit();
        barrel();
        assign();
        set();
        lots();
        weather();
        play();
        playDividesTakings();
        playOnWetDay();
        playAmongOthers();
        next();
        potsAreShared();
        fullTownEndsDay();
        fundOnWetDay();
        append();
        clearBuffer();
        firstError();
        run();
        runStops();
        undo();
        undoableCalls();
        lastHour();
        cornerProperties();
        quietHours();
        organProperties();
        playerProperties();
        hours();
        count();
        setting();
        whyNot();
        memoryAndDistance();
        ifPlayed();
        kindestTune();
        most();
        mostNeedsTunes();
        ifEnded();
        playersShare();
        digest();
        Checks.end("PromiseTests");
    }

    /** All that can be asked of a town, but for the number of saved states. */
    private static String answers(OrganCorners town) {
        StringBuilder all = new StringBuilder();
        for (int what = 0; what <= 14; what++) {
            all.append(town.count(what)).append(' ');
        }
        for (int which = 0; which < 5; which++) {
            all.append(town.setting(which)).append(' ');
        }
        for (int corner = 0; corner < town.count(0); corner++) {
            for (int what = 0; what <= 5; what++) {
                all.append(town.corner(corner, what)).append(' ');
            }
        }
        for (int organ = 0; organ < town.count(1); organ++) {
            for (int what = 0; what <= 8; what++) {
                all.append(town.organ(organ, what)).append(' ');
            }
            for (int player = 0; player < town.count(2); player++) {
                all.append(town.hours(player, organ)).append(' ');
            }
        }
        for (int player = 0; player < town.count(2); player++) {
            for (int what = 0; what <= 4; what++) {
                all.append(town.player(player, what)).append(' ');
            }
        }
        return all.toString();
    }

    private static void newObject() {
        OrganCorners town = new OrganCorners();
        for (int what = 0; what <= 15; what++) {
            Checks.due("1 count(" + what + ")", town.count(what), what == 6 ? 1 : 0);
        }
        int[] settings = {20, 2, 20, 25, 5};
        for (int which = 0; which < 5; which++) {
            Checks.due("1 setting(" + which + ")", town.setting(which), settings[which]);
        }
        Checks.due("1 clearBuffer()", town.clearBuffer(), 0);
        Checks.due("1 NONE", OrganCorners.NONE, -1);
    }

    private static void addCorner() {
        OrganCorners town = new OrganCorners();
        Checks.due("2 lowest", town.addCorner(0, 1, 0, 0), 0);
        Checks.due("2 highest", town.addCorner(99, 90, 9, 9), 1);
        Checks.due("2 place", town.corner(1, 0), 99);
        Checks.due("2 crowd", town.corner(1, 1), 90);
        int[][] wrong = {{-1, 1, 0, 0}, {100, 1, 0, 0}, {5, 0, 0, 0}, {5, 91, 0, 0}, {5, 1, -1, 0},
            {5, 1, 10, 0}, {5, 1, 0, -1}, {5, 1, 0, 10}, {0, 0, 0, 0}};
        for (int[] w : wrong) {
            Checks.dueThrow(town, "2 wrong", ARGUMENT,
                    () -> town.addCorner(w[0], w[1], w[2], w[3]));
        }
        for (int far : EXTREMES) {
            Checks.dueThrow(town, "2 far place", ARGUMENT, () -> town.addCorner(far, 1, 0, 0));
            Checks.dueThrow(town, "2 far crowd", ARGUMENT, () -> town.addCorner(5, far, 0, 0));
            Checks.dueThrow(town, "2 far first", ARGUMENT, () -> town.addCorner(5, 1, far, 0));
            Checks.dueThrow(town, "2 far quiet", ARGUMENT, () -> town.addCorner(5, 1, 0, far));
        }
        Checks.dueThrow(town, "2 same place", STATE, () -> town.addCorner(99, 1, 0, 0));
        Checks.dueThrow(town, "2 first place", STATE, () -> town.addCorner(0, 1, 0, 0));
        for (int place = 1; place <= 8; place++) {
            Checks.due("2 number", town.addCorner(place, 1, 0, 0), place + 1);
        }
        Checks.dueThrow(town, "2 eleventh", STATE, () -> town.addCorner(50, 1, 0, 0));
        Checks.dueThrow(town, "2 eleventh, wrong", ARGUMENT, () -> town.addCorner(50, 0, 0, 0));
        town.undo();
        Checks.due("2 behind undo", town.addCorner(50, 1, 0, 0), 9);
    }

    private static void addOrgan() {
        OrganCorners town = new OrganCorners();
        for (int organ = 0; organ < 5; organ++) {
            Checks.due("3 number", town.addOrgan(organ == 4 ? 50 : organ), organ);
            Checks.dueThrow(town, "3 below", ARGUMENT, () -> town.addOrgan(-1));
            Checks.dueThrow(town, "3 above", ARGUMENT, () -> town.addOrgan(51));
        }
        Checks.due("3 percent", town.organ(4, 0), 50);
        int[] atFirst = {0, 0, 0, NONE, 0, 0, 0, 0, NONE};
        for (int what = 0; what <= 8; what++) {
            Checks.due("3 at first " + what, town.organ(0, what), atFirst[what]);
        }
        Checks.dueThrow(town, "3 sixth", STATE, () -> town.addOrgan(0));
        Checks.dueThrow(town, "3 sixth, wrong", ARGUMENT, () -> town.addOrgan(51));
        Checks.due("3 saved", town.undo(), 4);
        Checks.due("3 undone", town.count(1), 4);
    }

    private static void addPlayer() {
        OrganCorners town = new OrganCorners();
        for (int player = 0; player < 8; player++) {
            Checks.due("4 number", town.addPlayer(), player);
        }
        int[] atFirst = {NONE, 0, 0, 0, 0};
        for (int what = 0; what <= 4; what++) {
            Checks.due("4 at first " + what, town.player(7, what), atFirst[what]);
        }
        Checks.dueThrow(town, "4 ninth", STATE, () -> town.addPlayer());
        Checks.due("4 saved", town.undo(), 5);
        Checks.due("4 undone", town.count(2), 7);
    }

    private static void permit() {
        OrganCorners town = Towns.pair();
        Checks.due("5 taken", town.permit(0, false), 1);
        Checks.due("5 corner stays", town.organ(0, 3), 0);
        Checks.due("5 plays on", town.play(0, 0), 50);
        Checks.due("5 no permit", town.organ(0, 1), 0);
        Checks.due("5 taken again", town.permit(0, false), 1);
        Checks.due("5 given", town.permit(0, true), 2);
        Checks.due("5 given again", town.permit(0, true), 2);
        Checks.dueThrow(town, "5 none", INDEX, () -> town.permit(-1, true));
        Checks.dueThrow(town, "5 beyond", INDEX, () -> town.permit(2, true));
        town.permit(0, false);
        town.undo();
        Checks.due("5 undone", town.organ(0, 1), 1);
        town.permit(1, true);
        Checks.due("5 saved though nothing changes", town.count(15), 6);
    }

    private static void barrel() {
        OrganCorners town = new OrganCorners();
        town.addOrgan(0);
        Checks.due("6 first", town.barrel(0, 1023), 0);
        Checks.due("6 second", town.barrel(0, 0), 1023);
        Checks.dueThrow(town, "6 below", ARGUMENT, () -> town.barrel(0, -1));
        Checks.dueThrow(town, "6 above", ARGUMENT, () -> town.barrel(0, 1024));
        Checks.dueThrow(town, "6 none", INDEX, () -> town.barrel(-1, 0));
        Checks.dueThrow(town, "6 beyond, wrong", INDEX, () -> town.barrel(1, 1024));
        Checks.due("6 undo", town.undo(), 2);
        Checks.due("6 undone", town.organ(0, 2), 1023);
    }

    private static void assign() {
        OrganCorners town = Towns.pair();
        town.play(0, 0);
        Checks.due("7 to another", town.assign(0, 1), 0);
        Checks.due("7 hours stay", town.hours(0, 0), 1);
        Checks.due("7 crew", town.organ(1, 4), 2);
        Checks.due("7 old crew", town.organ(0, 4), 0);
        Checks.due("7 to none", town.assign(0, NONE), 1);
        Checks.due("7 from none", town.assign(0, NONE), NONE);
        Checks.dueThrow(town, "7 no player", INDEX, () -> town.assign(2, 0));
        Checks.dueThrow(town, "7 player -1", INDEX, () -> town.assign(-1, 0));
        Checks.dueThrow(town, "7 no organ", INDEX, () -> town.assign(0, 2));
        Checks.dueThrow(town, "7 organ -2", INDEX, () -> town.assign(0, -2));
        town.undo();
        town.undo();
        Checks.due("7 undone", town.player(0, 0), 1);
    }

    private static void set() {
        OrganCorners town = new OrganCorners();
        int[] before = {20, 2, 20, 25, 5};
        int[] greatest = {99, 9, 50, 100, 50};
        for (int which = 0; which < 5; which++) {
            int setting = which;
            Checks.due("8 greatest", town.set(which, greatest[which]), before[which]);
            Checks.due("8 least", town.set(which, 0), greatest[which]);
            Checks.due("8 is", town.setting(which), 0);
            Checks.dueThrow(town, "8 above", ARGUMENT,
                    () -> town.set(setting, greatest[setting] + 1));
            Checks.dueThrow(town, "8 below", ARGUMENT, () -> town.set(setting, -1));
        }
        Checks.dueThrow(town, "8 none", INDEX, () -> town.set(-1, 0));
        Checks.dueThrow(town, "8 beyond, wrong", INDEX, () -> town.set(5, 1000));
        town.undo();
        Checks.due("8 undone", town.setting(4), 50);
    }

    private static void lots() {
        OrganCorners town = Towns.withCorners(0, 10, 20);
        Checks.due("9 nobody", town.lots(), 0);
        Checks.due("9 nothing drawn", town.count(6), 1);
        Towns.addOrgans(town, 5);
        town.permit(1, false);
        // The generator's 16838, 5758 and 10113: organ 0 gets 16838 % 3, 2 gets 0, 3 the last one.
        Checks.due("9 three corners", town.lots(), 3);
        int[] corners = {2, NONE, 0, 1, NONE};
        for (int organ = 0; organ < 5; organ++) {
            Checks.due("9 corner of " + organ, town.organ(organ, 3), corners[organ]);
        }
        Checks.due("9 three draws", town.count(6) / 65536, 10113);
        // 17515 % 3, 31051 % 2, 5627 % 1
        Checks.due("9 again", town.lots(), 3);
        int[] second = {1, NONE, 2, 0, NONE};
        for (int organ = 0; organ < 5; organ++) {
            Checks.due("9 second corner of " + organ, town.organ(organ, 3), second[organ]);
        }
        for (int organ = 0; organ < 5; organ++) {
            town.permit(organ, false);
        }
        Checks.due("9 all give back", town.lots(), 0);
        Checks.due("9 given back", town.organ(2, 3), NONE);
        town.undo();
        Checks.due("9 undone", town.organ(2, 3), 2);
        town.next();
        Checks.dueThrow(town, "9 hour 1", STATE, () -> town.lots());
        OrganCorners played = Towns.pair();
        played.play(0, 0);
        Checks.dueThrow(played, "9 played", STATE, () -> played.lots());
        Towns.nextTimes(played, 10);
        Checks.due("9 next day", played.lots(), 2);
    }

    private static void weather() {
        OrganCorners town = Towns.pair();
        Checks.due("10 wet", town.weather(true), 0);
        Checks.due("10 wet again", town.weather(true), 1);
        Checks.due("10 dry", town.weather(false), 1);
        town.next();
        Checks.due("10 later", town.weather(true), 0);
        Checks.due("10 is wet", town.count(5), 1);
        town.undo();
        Checks.due("10 undone", town.count(5), 0);
        town.play(0, 0);
        Checks.dueThrow(town, "10 played", STATE, () -> town.weather(true));
        town.next();
        Checks.dueThrow(town, "10 played before", STATE, () -> town.weather(false));
        Towns.nextTimes(town, 8);
        Checks.due("10 next day", town.weather(true), 0);
        Towns.nextTimes(town, 10);
        Checks.due("10 dry at first", town.count(5), 0);
    }

    private static void play() {
        OrganCorners town = Towns.pair();
        Checks.dueThrow(town, "11 no organ, wrong", INDEX, () -> town.play(2, 10));
        Checks.dueThrow(town, "11 organ -1", INDEX, () -> town.play(-1, 0));
        Checks.dueThrow(town, "11 tune 10", ARGUMENT, () -> town.play(0, 10));
        Checks.dueThrow(town, "11 tune -1", ARGUMENT, () -> town.play(0, -1));
        Checks.due("11 plays", town.play(0, 9), 50);
        Checks.dueThrow(town, "11 again", STATE, () -> town.play(0, 8));
        Checks.dueThrow(town, "11 again, wrong", ARGUMENT, () -> town.play(0, 10));
        Checks.dueThrow(town, "11 same tune", STATE, () -> town.play(1, 9));
        Checks.due("11 tune of hour", town.organ(0, 8), 9);
        Checks.due("11 undo", town.undo(), 5);
        Checks.due("11 undone", town.organ(0, 8), NONE);
        Checks.due("11 undone hours", town.player(0, 4), 0);
        Checks.due("11 undone tune", town.corner(0, 4), 0);
        OrganCorners idle = new OrganCorners();
        idle.addOrgan(0);
        Checks.dueThrow(idle, "11 without corner, wrong", ARGUMENT, () -> idle.play(0, 10));
        Checks.dueThrow(idle, "11 without corner", STATE, () -> idle.play(0, 0));
    }

    private static void playDividesTakings() {
        OrganCorners town = new OrganCorners();
        town.addCorner(10, 89, 0, 0);
        town.addOrgan(33);
        town.permit(0, true);
        town.barrel(0, 1);
        town.addPlayer();
        town.addPlayer();
        town.assign(1, 0);
        town.set(2, 37);
        town.set(3, 41);
        town.lots();
        // 89: the town's part is 32.93, the fund's 13.12 of 32, the owner's 18.81 of 57
        Checks.due("11 takings", town.play(0, 0), 89);
        Checks.due("11 fund", town.count(11), 13);
        Checks.due("11 town", town.count(10), 19);
        Checks.due("11 owner", town.organ(0, 6), 18);
        Checks.due("11 pot", town.organ(0, 5), 39);
        Checks.due("11 hour of crew", town.hours(1, 0), 1);
        Checks.due("11 no hour", town.hours(0, 0), 0);
    }

    private static void playOnWetDay() {
        OrganCorners town = new OrganCorners();
        town.addCorner(10, 33, 0, 0);
        town.addCorner(20, 33, 0, 0);
        Towns.addOrgans(town, 2);
        town.lots();
        town.weather(true);
        Checks.due("11 half", town.play(0, 0), 16);
        // 33 * 8 / 10 is 26 ahead of the half
        Checks.due("11 half with another", town.play(1, 1), 13);
        OrganCorners poor = new OrganCorners();
        poor.addCorner(10, 1, 0, 0);
        poor.addCorner(20, 1, 0, 0);
        Towns.addOrgans(poor, 2);
        poor.lots();
        Checks.due("11 alone", poor.play(0, 0), 1);
        Checks.due("11 0.8 rounded down", poor.play(1, 1), 0);
        OrganCorners small = Towns.single(1, 1);
        small.weather(true);
        Checks.due("11 half of 1", small.play(0, 0), 0);
        Checks.due("11 played all the same", small.count(7), 1);
        Checks.due("11 hour all the same", small.player(0, 1), 1);
    }

    private static void playAmongOthers() {
        OrganCorners town = Towns.withCorners(0, 20, 40, 60, 80);
        Towns.addOrgans(town, 5);
        town.set(0, 99);
        town.lots();
        int[] due = {50, 40, 30, 20, 10};
        for (int organ = 0; organ < 5; organ++) {
            Checks.due("11 others " + organ, town.play(organ, organ), due[organ]);
        }
        town.next();
        Checks.due("11 others of this hour alone", town.play(4, 5), 50);
        OrganCorners edge = Towns.pair();
        edge.play(0, 0);
        Checks.due("11 other at 20", edge.play(1, 1), 40);
        OrganCorners beyond = Towns.pair();
        beyond.set(0, 19);
        beyond.play(0, 0);
        Checks.due("11 other beyond 19", beyond.play(1, 0), 50);
        OrganCorners nearness = Towns.pair();
        nearness.set(0, 0);
        nearness.play(0, 3);
        Checks.due("11 distance 0", nearness.play(1, 3), 50);
    }

    private static void next() {
        OrganCorners town = Towns.pair();
        town.weather(true);
        town.play(0, 4);
        for (int hour = 1; hour <= 9; hour++) {
            Checks.due("12 hour", town.next(), hour);
            Checks.due("12 tune of hour", town.organ(0, 8), NONE);
        }
        Checks.due("12 corner kept", town.organ(0, 3), 0);
        Checks.due("12 wet kept", town.count(5), 1);
        Checks.due("12 hours kept", town.player(0, 1), 1);
        Checks.due("12 tunes kept", town.corner(0, 4), 16);
        Checks.due("12 day ends", town.next(), 0);
        Checks.due("12 day", town.count(3), 1);
        Checks.due("12 hour 0", town.count(4), 0);
        Checks.due("12 dry", town.count(5), 0);
        Checks.due("12 played on day", town.count(7), 0);
        Checks.due("12 played so far", town.count(8), 1);
        Checks.due("12 no corner", town.organ(0, 3), NONE);
        Checks.due("12 nobody at the corner", town.corner(0, 3), NONE);
        Checks.due("12 no hours", town.player(0, 1), 0);
        Checks.due("12 no hours at it", town.hours(0, 0), 0);
        Checks.due("12 hours so far", town.player(0, 4), 1);
        Checks.due("12 no tunes", town.corner(0, 4), 0);
        Checks.due("12 pot", town.organ(0, 5), 0);
        Checks.due("12 undo", town.undo(), 5);
        Checks.due("12 undone day", town.count(3), 0);
        Checks.due("12 undone hour", town.count(4), 9);
        Checks.due("12 undone tunes", town.corner(0, 4), 16);
        Checks.due("12 undone pot", town.organ(0, 5), 20);
        Checks.due("12 undone got", town.player(0, 2), 0);
    }

    private static void potsAreShared() {
        OrganCorners town = Towns.single(50, 3);
        town.set(2, 0);
        town.play(0, 0);
        Towns.nextTimes(town, 10);
        // 50 / 3 is 16, the remainders are alike: the two lowest numbers get one more
        int[] alike = {17, 17, 16};
        for (int player = 0; player < 3; player++) {
            Checks.due("12 like remainders " + player, town.player(player, 2), alike[player]);
            Checks.due("12 none from the fund", town.player(player, 3), 0);
        }
        OrganCorners one = Towns.single(1, 2);
        one.play(0, 0);
        Towns.nextTimes(one, 10);
        Checks.due("12 a pot of 1", one.player(0, 2), 1);
        Checks.due("12 none left of it", one.player(1, 2), 0);
        OrganCorners later = Towns.single(50, 2);
        later.set(2, 0);
        later.play(0, 0);
        later.assign(0, NONE);
        later.next();
        later.play(0, 1);
        Towns.nextTimes(later, 9);
        // 100 * 1 / 3 has remainder 1, 100 * 2 / 3 has 2
        Checks.due("12 less remainder", later.player(0, 2), 33);
        Checks.due("12 more remainder", later.player(1, 2), 67);
        OrganCorners large = Towns.single(50, 2);
        large.set(2, 0);
        large.set(1, 0);
        for (int hour = 0; hour < 3; hour++) {
            large.play(0, 0);
            large.next();
            if (hour == 0) {
                large.assign(1, NONE);
            }
        }
        // pot 150, hours 3 and 1: 112 remainder 2, 37 remainder 2
        Checks.due("12 like remainders, as they would be", large.ifEnded(0), 113);
        large.play(0, 0);
        // pot 200, hours 4 and 1: no remainders
        Checks.due("12 no remainders", large.ifEnded(0), 160);
        large.next();
        large.set(0, 0);
        large.assign(1, 0);
        large.play(0, 0);
        large.next();
        large.play(0, 0);
        large.next();
        large.assign(0, NONE);
        large.play(0, 0);
        // pot 350, hours 6 and 4: no remainders; then one hour more for player 1 alone
        Checks.due("12 even", large.ifEnded(1), 140);
        large.next();
        large.play(0, 0);
        Towns.nextTimes(large, 3);
        // pot 400, hours 6 and 5: 218 remainder 2, 181 remainder 9
        Checks.due("12 larger share, less remainder", large.player(0, 2), 218);
        Checks.due("12 smaller share, more remainder", large.player(1, 2), 182);
        OrganCorners two = Towns.pair();
        two.set(2, 0);
        two.play(0, 0);
        two.assign(0, 1);
        two.play(1, 1);
        Towns.nextTimes(two, 10);
        Checks.due("12 of two pots", two.player(0, 2), 70);
        Checks.due("12 of one pot", two.player(1, 2), 20);
        Checks.due("12 all pots empty", two.count(13), 0);
    }

    private static void fundOnWetDay() {
        OrganCorners town = Towns.single(90, 1);
        town.addPlayer();
        town.addPlayer();
        town.addPlayer();
        town.set(2, 50);
        town.set(3, 100);
        town.set(4, 30);
        town.set(1, 0);
        town.weather(true);
        for (int hour = 0; hour < 3; hour++) {
            town.play(0, hour);
            town.next();
        }
        // 3 * (45 * 50 / 100) is in the fund; player 0 has 3 hours
        Checks.due("12 fund", town.count(11), 66);
        Towns.nextTimes(town, 7);
        int[] fromFund = {0, 30, 30, 6};
        for (int player = 0; player < 4; player++) {
            Checks.due("12 from fund " + player, town.player(player, 3), fromFund[player]);
        }
        Checks.due("12 got", town.player(0, 2), 69);
        Checks.due("12 got from fund alone", town.player(2, 2), 30);
        Checks.due("12 fund is empty", town.count(11), 0);
        OrganCorners dry = Towns.single(90, 1);
        dry.addPlayer();
        dry.set(3, 100);
        dry.play(0, 0);
        Towns.nextTimes(dry, 10);
        Checks.due("12 dry day", dry.count(11), 18);
        dry.weather(true);
        Towns.nextTimes(dry, 10);
        Checks.due("12 wet day without plays", dry.count(11), 8);
        OrganCorners twoHours = Towns.single(90, 1);
        twoHours.set(3, 100);
        twoHours.weather(true);
        twoHours.play(0, 0);
        twoHours.next();
        twoHours.play(0, 1);
        Towns.nextTimes(twoHours, 9);
        Checks.due("12 fewer than 3 hours", twoHours.player(0, 3), 5);
    }

    private static void append() {
        OrganCorners town = new OrganCorners();
        Checks.due("13 first", town.append(33), 1);
        Checks.due("13 second", town.append(126), 2);
        Checks.dueThrow(town, "13 below", ARGUMENT, () -> town.append(32));
        Checks.dueThrow(town, "13 above", ARGUMENT, () -> town.append(127));
        for (int far : EXTREMES) {
            Checks.dueThrow(town, "13 far", ARGUMENT, () -> town.append(far));
        }
        for (int length = 3; length <= 60; length++) {
            Checks.due("13 length", town.append('a'), length);
        }
        Checks.dueThrow(town, "13 full", STATE, () -> town.append('a'));
        Checks.dueThrow(town, "13 full, wrong", ARGUMENT, () -> town.append(32));
        Checks.due("13 not undoable", town.count(15), 0);
    }

    private static void clearBuffer() {
        OrganCorners town = new OrganCorners();
        Towns.type(town, "lots");
        Checks.due("14 length", town.clearBuffer(), 4);
        Checks.due("14 is empty", town.clearBuffer(), 0);
        Checks.due("14 starts anew", town.append('w'), 1);
        Checks.due("14 not undoable", town.count(15), 0);
    }

    private static void dueError(String text, int want) {
        OrganCorners town = new OrganCorners();
        Towns.type(town, text);
        long before = town.digest();
        Checks.due("15 firstError of " + text, town.firstError(), want);
        Checks.due("15 digest behind firstError", town.digest(), before);
    }

    private static void firstError() {
        String[] right = {"", "l", "lo", "lot", "lots", "lots;", "w", "we", "wet", "d", "dr", "dry",
            "n", "ne", "nex", "next", "0", "4:", "4:j", "0:a;", "wet;dry;next;lots;0:a;4:j",
            "dry;wet;d"};
        for (String text : right) {
            dueError(text, text.length());
        }
        dueError("x", 0);
        dueError(";", 0);
        dueError("5:a", 0);
        dueError("a:0", 0);
        dueError("Lots", 0);
        dueError("lost", 2);
        dueError("lot;", 3);
        dueError("lotsx", 4);
        dueError("lots;;", 5);
        dueError("wett", 3);
        dueError("west", 2);
        dueError("dr;", 2);
        dueError("nextnext", 4);
        dueError("00", 1);
        dueError("0a", 1);
        dueError("0:k", 2);
        dueError("0:A", 2);
        dueError("0:`", 2);
        dueError("0:;", 2);
        dueError("0:aa", 3);
        dueError("0:a,1:b", 3);
        dueError("next;5:a;x", 5);
        dueError("next;0:z;x", 7);
        dueError("lots;/:a", 5);
        StringBuilder full = new StringBuilder();
        for (int i = 0; i < 15; i++) {
            full.append("0:a;");
        }
        dueError(full.toString(), 60);
        dueError(full.substring(0, 59) + "x", 59);
        dueError(full.substring(0, 56) + "next", 60);
    }

    private static void run() {
        OrganCorners town = Towns.withCorners(10, 30);
        Towns.addOrgans(town, 2);
        String[] incomplete = {"", "l", "lots;", "next;0", "next;0:", "x", "lots;;lots", "wet;lot"};
        for (String text : incomplete) {
            Towns.type(town, text);
            Checks.dueThrow(town, "16 run of " + text, ARGUMENT, () -> town.run());
            Checks.due("16 buffer stays", town.clearBuffer(), text.length());
        }
        String before = answers(town);
        Towns.type(town, "wet;dry;wet;lots;0:a;1:b;next;0:c;next");
        Checks.due("16 run", town.run(), 9);
        Checks.due("16 buffer is cleared", town.clearBuffer(), 0);
        Checks.due("16 hour", town.count(4), 2);
        Checks.due("16 wet", town.count(5), 1);
        Checks.due("16 played", town.count(7), 3);
        Checks.due("16 takings", town.count(9), 25 + 20 + 25);
        Checks.due("16 tunes at corner 0", town.corner(0, 4), 5);
        Checks.due("16 tunes at corner 1", town.corner(1, 4), 2);
        Checks.due("16 one undo", town.undo(), 5);
        Checks.due("16 all is undone", answers(town).equals(before) ? 1 : 0, 1);
        StringBuilder full = new StringBuilder();
        for (int i = 0; i < 11; i++) {
            full.append("next;");
        }
        Towns.type(town, full + "next");
        Checks.due("16 twelve hours", town.run(), 12);
        Checks.due("16 next day", town.count(3), 1);
        Checks.due("16 hour 2", town.count(4), 2);
    }

    private static void runStops() {
        OrganCorners town = Towns.pair();
        Towns.type(town, "4:a");
        Checks.due("16 no such organ", town.run(), 0);
        Checks.due("16 saved all the same", town.count(15), 6);
        Checks.due("16 cleared all the same", town.clearBuffer(), 0);
        Towns.type(town, "0:a;0:b;next");
        Checks.due("16 stops at the second", town.run(), 1);
        Checks.due("16 the third is not done", town.count(4), 0);
        Towns.type(town, "1:b;wet");
        Checks.due("16 no weather when played", town.run(), 1);
        Towns.type(town, "next;lots;next");
        Checks.due("16 no lots in hour 1", town.run(), 1);
        Checks.due("16 hour 1", town.count(4), 1);
        OrganCorners fresh = new OrganCorners();
        Towns.type(fresh, "0:a");
        Checks.due("16 none is done", fresh.run(), 0);
        Checks.due("16 undo of none", fresh.undo(), 0);
        Towns.type(fresh, "dry;wet");
        Checks.due("16 weather", fresh.run(), 2);
        Checks.due("16 wet", fresh.count(5), 1);
        Towns.type(fresh, "dry");
        fresh.run();
        Checks.due("16 dry", fresh.count(5), 0);
    }

    private static void undo() {
        OrganCorners town = new OrganCorners();
        Checks.dueThrow(town, "17 nothing", STATE, () -> town.undo());
        long[] digests = new long[9];
        for (int i = 0; i < 9; i++) {
            digests[i] = town.count(2) * 10L + town.count(3);
            if (i % 2 == 0) {
                town.addPlayer();
            } else {
                town.next();
            }
        }
        Checks.due("17 at most 6", town.count(15), 6);
        Towns.type(town, "ne");
        for (int left = 5; left >= 0; left--) {
            Checks.due("17 left", town.undo(), left);
            Checks.due("17 saved", town.count(15), left);
            Checks.due("17 restored", town.count(2) * 10L + town.count(3), digests[3 + left]);
        }
        Checks.dueThrow(town, "17 no more", STATE, () -> town.undo());
        Checks.due("17 oldest are dropped", town.count(2), 2);
        Checks.due("17 buffer stays", town.clearBuffer(), 2);
        town.set(0, 7);
        town.set(0, 8);
        town.undo();
        town.set(0, 9);
        town.undo();
        Checks.due("17 behind undo", town.setting(0), 7);
        Checks.due("17 back to the first", town.undo(), 0);
        Checks.due("17 first setting", town.setting(0), 20);
    }

    private static OrganCorners smallTown() {
        OrganCorners town = new OrganCorners();
        town.addCorner(5, 60, 7, 2);
        town.addOrgan(30);
        town.addPlayer();
        town.permit(0, true);
        town.barrel(0, 7);
        town.assign(0, 0);
        return town;
    }

    private static OrganCorners wetTown() {
        OrganCorners town = smallTown();
        town.lots();
        town.weather(true);
        return town;
    }

    private static OrganCorners lastHourOfDay() {
        OrganCorners town = wetTown();
        town.play(0, 1);
        Towns.nextTimes(town, 9);
        return town;
    }

    private static void undoableCalls() {
        Twins.undone("17 addCorner", Towns::fresh, town -> town.addCorner(5, 6, 7, 8));
        Twins.undone("17 addOrgan", Towns::fresh, town -> town.addOrgan(9));
        Twins.undone("17 addPlayer", Towns::fresh, town -> town.addPlayer());
        Twins.undone("17 lots", Towns::fresh, town -> town.lots());
        Twins.undone("17 weather", Towns::fresh, town -> town.weather(true));
        Twins.undone("17 next", Towns::fresh, town -> town.next());
        Twins.undone("17 set", Towns::fresh, town -> town.set(4, 9));
        Twins.undone("17 permit", PromiseTests::smallTown, town -> town.permit(0, false));
        Twins.undone("17 barrel", PromiseTests::smallTown, town -> town.barrel(0, 5));
        Twins.undone("17 assign", PromiseTests::smallTown, town -> town.assign(0, NONE));
        Twins.undone("17 lots with a permit", PromiseTests::smallTown, town -> town.lots());
        Twins.undone("17 play", PromiseTests::wetTown, town -> town.play(0, 1));
        Twins.undone("17 play in hour 9", PromiseTests::lastHourOfDay, town -> town.play(0, 2));
        Twins.undone("17 the end of a day", PromiseTests::lastHourOfDay, town -> town.next());
        Twins.undone("17 run, none done", Towns::fresh, town -> Towns.run(town, "4:j"));
        Twins.undone("17 run", PromiseTests::wetTown, town -> Towns.run(town, "dry;0:a;next;next"));
    }

    private static void lastHour() {
        OrganCorners town = Towns.pair();
        Towns.nextTimes(town, 9);
        Checks.due("11 hour 9", town.play(0, 7), 50);
        Checks.due("18 tunes of hour 9", town.corner(0, 4), 128);
        Checks.due("18 heard in hour 9", town.corner(1, 5), 128);
        Checks.due("22 in pots", town.count(13), 40);
        town.undo();
        Checks.due("17 hour 9 undone", town.corner(0, 4), 0);
        town.play(0, 7);
        town.next();
        Checks.due("12 hour 9 forgotten", town.corner(0, 4), 0);
        Checks.due("12 hour 9 not heard", town.corner(0, 5), 0);
    }

    private static void fullTownEndsDay() {
        OrganCorners town = new OrganCorners();
        for (int corner = 0; corner < 10; corner++) {
            town.addCorner(corner * 11, 7, 0, 0);
        }
        Towns.addOrgans(town, 5);
        for (int player = 5; player < 8; player++) {
            town.addPlayer();
            town.assign(player, 4);
        }
        town.set(2, 0);
        town.set(0, 0);
        town.lots();
        for (int organ = 0; organ < 5; organ++) {
            town.play(organ, organ);
        }
        Towns.nextTimes(town, 10);
        // the pot of organ 4, 7, is shared by players 4 to 7
        int[] got = {7, 7, 7, 7, 2, 2, 2, 1};
        for (int player = 0; player < 8; player++) {
            Checks.due("12 got in a full town " + player, town.player(player, 2), got[player]);
            Checks.due("12 no hours in a full town " + player, town.player(player, 1), 0);
        }
        town.set(2, 50);
        town.set(3, 100);
        town.set(4, 1);
        town.lots();
        town.weather(true);
        for (int hour = 0; hour < 10; hour++) {
            for (int organ = 0; organ < 5; organ++) {
                town.play(organ, hour);
            }
            town.next();
        }
        // each play takes 3, of which 1 comes to the fund; everybody has 10 hours
        Checks.due("12 fund of a full town", town.count(11), 50);
        town.weather(true);
        Towns.nextTimes(town, 10);
        for (int player = 0; player < 8; player++) {
            Checks.due("12 from fund in a full town " + player, town.player(player, 3), 1);
        }
        Checks.due("12 left in the fund", town.count(11), 42);
    }

    private static void cornerProperties() {
        OrganCorners town = Towns.withCorners(10, 30, 51);
        Towns.addOrgans(town, 1);
        town.lots();
        // 16838 % 3
        Checks.due("18 organ", town.corner(2, 3), 0);
        Checks.due("18 no organ", town.corner(0, 3), NONE);
        town.play(0, 2);
        Checks.due("18 tunes", town.corner(2, 4), 4);
        Checks.due("18 heard there", town.corner(2, 5), 4);
        Checks.due("18 not heard at 21", town.corner(1, 5), 0);
        Checks.due("18 no tunes", town.corner(1, 4), 0);
        town.set(0, 21);
        Checks.due("18 heard at 21", town.corner(1, 5), 4);
        Checks.due("18 not heard at 41", town.corner(0, 5), 0);
        Towns.nextTimes(town, 2);
        Checks.due("18 heard 2 hours on", town.corner(1, 5), 4);
        town.play(0, 9);
        Checks.due("18 two tunes", town.corner(2, 4), 516);
        Checks.due("18 two heard", town.corner(2, 5), 516);
        town.next();
        Checks.due("18 first is no longer heard", town.corner(2, 5), 512);
        Checks.due("18 first was played", town.corner(2, 4), 516);
        Checks.dueThrow(town, "18 what 6", ARGUMENT, () -> town.corner(0, 6));
        Checks.dueThrow(town, "18 what -1", ARGUMENT, () -> town.corner(0, -1));
        Checks.dueThrow(town, "18 corner 3, wrong", INDEX, () -> town.corner(3, 6));
        Checks.dueThrow(town, "18 corner -1", INDEX, () -> town.corner(-1, 0));
    }

    private static void quietHours() {
        int[][] quiet = {{0, 0}, {8, 3}, {0, 1}, {9, 9}, {5, 2}};
        String[] due = {"0000000000", "1000000011", "1000000000", "1111111101", "0000011000"};
        OrganCorners town = new OrganCorners();
        for (int corner = 0; corner < quiet.length; corner++) {
            town.addCorner(corner, 50, quiet[corner][0], quiet[corner][1]);
        }
        for (int hour = 0; hour < 10; hour++) {
            for (int corner = 0; corner < quiet.length; corner++) {
                Checks.due("18 quiet " + corner + " in hour " + hour, town.corner(corner, 2),
                        due[corner].charAt(hour) - '0');
            }
            town.next();
        }
    }

    private static void organProperties() {
        OrganCorners town = Towns.pair();
        town.addOrgan(50);
        Checks.due("19 percent", town.organ(2, 0), 50);
        Checks.due("19 no permit", town.organ(2, 1), 0);
        Checks.due("19 permit", town.organ(1, 1), 1);
        Checks.due("19 tunes", town.organ(1, 2), 1023);
        Checks.due("19 corner", town.organ(1, 3), 1);
        Checks.due("19 no corner", town.organ(2, 3), NONE);
        town.assign(0, 1);
        Checks.due("19 crew", town.organ(1, 4), 2);
        Checks.due("19 no crew", town.organ(0, 4), 0);
        town.play(1, 3);
        town.next();
        town.play(1, 4);
        Checks.due("19 pot", town.organ(1, 5), 80);
        Checks.due("19 owner", town.organ(1, 6), 0);
        Checks.due("19 takings", town.organ(1, 7), 100);
        Checks.due("19 tune", town.organ(1, 8), 4);
        Checks.due("19 no tune", town.organ(0, 8), NONE);
        Towns.nextTimes(town, 9);
        Checks.due("19 takings stay", town.organ(1, 7), 100);
        Checks.dueThrow(town, "19 what 9", ARGUMENT, () -> town.organ(0, 9));
        Checks.dueThrow(town, "19 what -1", ARGUMENT, () -> town.organ(0, -1));
        Checks.dueThrow(town, "19 organ 3, wrong", INDEX, () -> town.organ(3, 9));
        Checks.dueThrow(town, "19 organ -1", INDEX, () -> town.organ(-1, 0));
    }

    private static void playerProperties() {
        OrganCorners town = Towns.pair();
        town.set(3, 100);
        town.weather(true);
        town.play(0, 0);
        town.assign(0, 1);
        town.play(1, 1);
        Checks.due("20 organ", town.player(0, 0), 1);
        Checks.due("20 hours at both", town.player(0, 1), 2);
        Checks.due("20 hours", town.player(1, 1), 1);
        Checks.due("20 nothing yet", town.player(0, 2), 0);
        Towns.nextTimes(town, 10);
        // pots 20 and 16; the fund has 5 + 4, so 5 go to player 0 and 4 to player 1
        Checks.due("20 got", town.player(0, 2), 20 + 8 + 5);
        Checks.due("20 from fund", town.player(0, 3), 5);
        Checks.due("20 other got", town.player(1, 2), 8 + 4);
        Checks.due("20 other from fund", town.player(1, 3), 4);
        Checks.due("20 hours of day", town.player(0, 1), 0);
        town.lots();
        town.play(1, 1);
        Checks.due("20 hours so far", town.player(0, 4), 3);
        Checks.due("20 hours of this day", town.player(0, 1), 1);
        Checks.dueThrow(town, "20 what 5", ARGUMENT, () -> town.player(0, 5));
        Checks.dueThrow(town, "20 what -1", ARGUMENT, () -> town.player(0, -1));
        Checks.dueThrow(town, "20 player 2, wrong", INDEX, () -> town.player(2, 5));
        Checks.dueThrow(town, "20 player -1", INDEX, () -> town.player(-1, 0));
    }

    private static void hours() {
        OrganCorners town = Towns.pair();
        town.play(0, 0);
        town.next();
        town.play(0, 1);
        town.play(1, 2);
        Checks.due("21 two", town.hours(0, 0), 2);
        Checks.due("21 none", town.hours(0, 1), 0);
        Checks.due("21 one", town.hours(1, 1), 1);
        Checks.dueThrow(town, "21 player 2", INDEX, () -> town.hours(2, 0));
        Checks.dueThrow(town, "21 player -1", INDEX, () -> town.hours(-1, 0));
        Checks.dueThrow(town, "21 organ 2", INDEX, () -> town.hours(0, 2));
        Checks.dueThrow(town, "21 organ -1", INDEX, () -> town.hours(0, -1));
    }

    private static void count() {
        OrganCorners town = new OrganCorners();
        town.addCorner(10, 50, 0, 0);
        town.addCorner(30, 50, 0, 0);
        town.addCorner(90, 50, 0, 0);
        town.addOrgan(50);
        town.addOrgan(10);
        for (int organ = 0; organ < 2; organ++) {
            town.permit(organ, true);
            town.barrel(organ, 1023);
            town.addPlayer();
            town.assign(organ, organ);
        }
        town.lots();
        town.weather(true);
        town.play(0, 0);
        town.play(1, 1);
        Towns.nextTimes(town, 10);
        town.lots();
        town.weather(true);
        town.next();
        town.play(0, 2);
        town.undo();
        town.play(1, 2);
        // day 0: organs 0 and 1 are at corners 2 (16838 % 3) and 0 (5758 % 2), far from each other;
        // each takes 25: fund 1, town 4, owners 10 and 2, pots 10 and 18. From the fund's 2 the
        // first player gets 2. Day 1: organ 1 takes 25 once more.
        int[] due = {3, 2, 2, 1, 1, 1, town.count(6), 1, 3, 75, 12, 1, 14, 18, 30, 6};
        for (int what = 0; what <= 15; what++) {
            Checks.due("22 count(" + what + ")", town.count(what), due[what]);
        }
        // four draws: 16838, 5758, 10113, 17515
        Checks.due("22 seed", town.count(6) / 65536, 17515);
        Checks.dueThrow(town, "22 what 16", ARGUMENT, () -> town.count(16));
        for (int far : EXTREMES) {
            Checks.dueThrow(town, "22 far", ARGUMENT, () -> town.count(far));
        }
    }

    private static void setting() {
        OrganCorners town = new OrganCorners();
        int[] due = {20, 2, 20, 25, 5};
        for (int which = 0; which < 5; which++) {
            Checks.due("23 at first", town.setting(which), due[which]);
            town.set(which, which + 1);
            Checks.due("23 set", town.setting(which), which + 1);
        }
        Checks.dueThrow(town, "23 setting 5", INDEX, () -> town.setting(5));
        Checks.dueThrow(town, "23 setting -1", INDEX, () -> town.setting(-1));
    }

    private static void whyNot() {
        OrganCorners town = new OrganCorners();
        town.addCorner(10, 50, 1, 1);
        town.addOrgan(0);
        town.addPlayer();
        Checks.due("24 corner first", town.whyNot(0, 0), 1);
        town.permit(0, true);
        town.lots();
        Checks.due("24 crew ahead of barrel", town.whyNot(0, 0), 2);
        town.assign(0, 0);
        Checks.due("24 barrel", town.whyNot(0, 0), 3);
        town.barrel(0, 3);
        Checks.due("24 none", town.whyNot(0, 0), 0);
        Checks.due("24 not this one", town.whyNot(0, 2), 3);
        town.play(0, 0);
        Checks.due("24 played ahead of heard", town.whyNot(0, 0), 4);
        Checks.due("24 played, other tune", town.whyNot(0, 1), 4);
        Checks.due("24 barrel ahead of played", town.whyNot(0, 2), 3);
        town.assign(0, NONE);
        Checks.due("24 crew ahead of played", town.whyNot(0, 2), 2);
        town.assign(0, 0);
        town.next();
        Checks.due("24 quiet ahead of heard", town.whyNot(0, 0), 5);
        Checks.due("24 barrel ahead of quiet", town.whyNot(0, 2), 3);
        town.next();
        Checks.due("24 heard", town.whyNot(0, 0), 6);
        Checks.due("24 barrel ahead of heard", town.whyNot(0, 2), 3);
        Checks.due("24 not heard", town.whyNot(0, 1), 0);
        town.next();
        Checks.due("24 forgotten", town.whyNot(0, 0), 0);
        Checks.dueThrow(town, "24 tune 10", ARGUMENT, () -> town.whyNot(0, 10));
        Checks.dueThrow(town, "24 tune -1", ARGUMENT, () -> town.whyNot(0, -1));
        Checks.dueThrow(town, "24 organ 1, wrong", INDEX, () -> town.whyNot(1, 10));
        Checks.dueThrow(town, "24 organ -1", INDEX, () -> town.whyNot(-1, 0));
    }

    private static void memoryAndDistance() {
        OrganCorners town = Towns.pair();
        town.play(0, 5);
        Checks.due("24 heard by another at 20", town.whyNot(1, 5), 6);
        town.set(0, 19);
        Checks.due("24 not heard beyond 19", town.whyNot(1, 5), 0);
        town.set(0, 0);
        town.set(1, 0);
        town.next();
        Checks.due("24 memory 0", town.whyNot(0, 5), 0);
        town.set(1, 1);
        Checks.due("24 memory 1", town.whyNot(0, 5), 6);
        Checks.due("24 distance 0", town.whyNot(1, 5), 0);
        town.set(1, 9);
        Towns.nextTimes(town, 8);
        Checks.due("24 memory 9 in hour 9", town.whyNot(0, 5), 6);
        town.set(1, 8);
        Checks.due("24 memory 8 in hour 9", town.whyNot(0, 5), 0);
        town.set(1, 9);
        town.next();
        town.lots();
        Checks.due("24 next day", town.whyNot(0, 5), 0);
    }

    private static void ifPlayed() {
        OrganCorners town = Towns.pair();
        Checks.due("25 alone", town.ifPlayed(0), 50);
        town.play(1, 0);
        Checks.due("25 with another", town.ifPlayed(0), 40);
        Checks.due("25 played already", town.ifPlayed(1), NONE);
        town.barrel(0, 1);
        Checks.due("25 its tune is heard", town.ifPlayed(0), NONE);
        town.barrel(0, 2);
        Checks.due("25 another tune", town.ifPlayed(0), 40);
        town.barrel(0, 0);
        Checks.due("25 no tune", town.ifPlayed(0), NONE);
        OrganCorners small = Towns.single(1, 1);
        small.weather(true);
        Checks.due("25 takings 0", small.ifPlayed(0), 0);
        Checks.dueThrow(town, "25 organ 2", INDEX, () -> town.ifPlayed(2));
        Checks.dueThrow(town, "25 organ -1", INDEX, () -> town.ifPlayed(-1));
    }

    private static void kindestTune() {
        // organs 0, 1, 2 at corners 2, 0, 1: places 40, 0 and 20
        OrganCorners town = Towns.withCorners(0, 20, 40);
        Towns.addOrgans(town, 3);
        town.lots();
        Checks.due("26 lowest of like ones", town.kindestTune(0), 0);
        town.barrel(1, 1);
        town.barrel(2, 6);
        Checks.due("26 tune 0 of one too far", town.kindestTune(0), 0);
        town.set(0, 40);
        Checks.due("26 none has tune 3", town.kindestTune(0), 3);
        town.barrel(0, 7);
        Checks.due("26 each hinders one", town.kindestTune(0), 0);
        town.barrel(1, 5);
        Checks.due("26 tune 2 hinders two", town.kindestTune(0), 0);
        town.barrel(1, 3);
        town.barrel(2, 5);
        Checks.due("26 tune 0 hinders two", town.kindestTune(0), 1);
        town.play(2, 2);
        Checks.due("26 who played is not hindered", town.kindestTune(0), 0);
        Checks.due("26 organ 0 is another one", town.kindestTune(1), 0);
        town.barrel(0, 1);
        Checks.due("26 organ 0 is hindered", town.kindestTune(1), 1);
        town.barrel(0, 4);
        Checks.due("26 can play none", town.kindestTune(0), NONE);
        Checks.dueThrow(town, "26 organ 3", INDEX, () -> town.kindestTune(3));
        Checks.dueThrow(town, "26 organ -1", INDEX, () -> town.kindestTune(-1));
    }

    private static void most() {
        OrganCorners town = Towns.pair();
        Checks.due("27 both", town.most(0), 90);
        Checks.due("27 both organs", town.most(1), 3);
        town.barrel(0, 1);
        town.barrel(1, 1);
        Checks.due("27 one tune", town.most(0), 50);
        Checks.due("27 the least mask", town.most(1), 1);
        town.barrel(1, 2);
        town.play(0, 0);
        Checks.due("27 rest of the hour", town.most(0), 40);
        Checks.due("27 rest of the organs", town.most(1), 2);
        town.play(1, 1);
        Checks.due("27 none", town.most(0), 0);
        Checks.due("27 no organs", town.most(1), 0);
        Checks.dueThrow(town, "27 what 2", ARGUMENT, () -> town.most(2));
        Checks.dueThrow(town, "27 what -1", ARGUMENT, () -> town.most(-1));
        // a small crowd ahead of a large one costs more than it takes
        OrganCorners small = new OrganCorners();
        small.addCorner(0, 3, 0, 0);
        small.addCorner(5, 90, 0, 0);
        Towns.addOrgans(small, 2);
        small.lots();
        Checks.due("27 the large one alone", small.most(0), 90);
        Checks.due("27 the large one's mask", small.most(1), 2);
        OrganCorners nothing = Towns.single(1, 1);
        nothing.weather(true);
        Checks.due("27 takings 0", nothing.most(0), 0);
        Checks.due("27 mask 0", nothing.most(1), 0);
    }

    private static void mostNeedsTunes() {
        // organs 0, 1, 2 at corners 2, 0, 1, all near each other: 50 + 40 + 30
        OrganCorners town = Towns.withCorners(0, 5, 10);
        Towns.addOrgans(town, 3);
        town.lots();
        Checks.due("27 three", town.most(0), 120);
        town.barrel(0, 3);
        town.barrel(1, 1);
        town.barrel(2, 6);
        Checks.due("27 organ 0 must not take tune 0", town.most(0), 120);
        Checks.due("27 all three", town.most(1), 7);
        town.barrel(2, 3);
        Checks.due("27 two tunes for three", town.most(0), 90);
        Checks.due("27 the least pair", town.most(1), 3);
        town.barrel(1, 0);
        Checks.due("27 organ 1 cannot", town.most(1), 5);
    }

    private static void ifEnded() {
        OrganCorners town = Towns.single(90, 1);
        town.addPlayer();
        town.addPlayer();
        town.set(2, 50);
        town.set(3, 100);
        town.set(4, 30);
        town.weather(true);
        Checks.due("28 nothing", town.ifEnded(0), 0);
        town.play(0, 0);
        town.assign(1, 0);
        town.next();
        town.play(0, 1);
        // pot 46, hours 2 and 1: 30 remainder 2, 15 remainder 1; the fund has 44: 30, 14, 0
        int[] due = {31 + 30, 15 + 14, 0};
        long before = town.digest();
        for (int player = 0; player < 3; player++) {
            Checks.due("28 player " + player, town.ifEnded(player), due[player]);
        }
        Checks.due("28 nothing changes", town.digest(), before);
        Towns.nextTimes(town, 9);
        for (int player = 0; player < 3; player++) {
            Checks.due("28 as it comes " + player, town.player(player, 2), due[player]);
            Checks.due("28 anew " + player, town.ifEnded(player), 0);
        }
        Checks.dueThrow(town, "28 player 3", INDEX, () -> town.ifEnded(3));
        Checks.dueThrow(town, "28 player -1", INDEX, () -> town.ifEnded(-1));
    }

    private static void playersShare() {
        OrganCorners town = Towns.single(70, 1);
        Checks.dueExactly("29 nothing", town.playersShare(), 0.0);
        town.play(0, 0);
        Checks.dueExactly("29 in the pot", town.playersShare(), 0.0);
        Towns.nextTimes(town, 10);
        Checks.dueExactly("29 shared", town.playersShare(), 56.0 / 70.0);
        OrganCorners all = Towns.single(70, 1);
        all.set(2, 0);
        all.play(0, 0);
        Towns.nextTimes(all, 10);
        Checks.dueExactly("29 all", all.playersShare(), 1.0);
    }

    private static long mixed(long hash, long... values) {
        long mixed = hash;
        for (long value : values) {
            mixed = 31 * mixed + value;
        }
        return mixed;
    }

    private static void digest() {
        long empty = mixed(2297, 0, 0, 0, 0, 0, 0, 1, 0, 0, 0, 0, 0, 0, 0, 0, 0, 20, 2, 20, 25, 5,
                0, 0, 0, 0);
        OrganCorners town = new OrganCorners();
        Checks.due("30 new", town.digest(), empty);
        town.append('l');
        town.append('x');
        long typed = mixed(2297, 0, 0, 0, 0, 0, 0, 1, 0, 0, 0, 0, 0, 0, 0, 0, 0, 20, 2, 20, 25, 5,
                0, 0, 0, 2, 'l', 'x');
        Checks.due("30 typed", town.digest(), typed);
        OrganCorners small = Towns.single(70, 1);
        small.play(0, 0);
        Towns.nextTimes(small, 10);
        small.lots();
        // one corner, organ and player on day 1: 70 taken, fund 3, town 11, pot 56 shared;
        // the seed went by two draws of one corner each
        long want = mixed(2297, 1, 1, 1, 1, 0, 0, small.count(6), 0, 1, 70, 11, 3, 0, 0, 56, 6);
        want = mixed(want, 20, 2, 20, 25, 5);
        want = mixed(want, 40, 70, 0, 0, 0, 0);
        want = mixed(want, 0, 1, 1023, 0, 1, 0, 0, 70, NONE);
        want = mixed(want, 0, 0, 0, 0, 0, 0, 0, 0, 0, 0, 70, 0);
        want = mixed(want, 0, 0, 56, 0, 1, 0, 0);
        want = mixed(want, 70, 1, Double.doubleToLongBits(56.0 / 70.0), 0);
        Checks.due("30 small town", small.digest(), want);
        Checks.due("30 nothing changes", small.digest(), want);
        Checks.due("30 seed", small.count(6) / 65536, 5758);
    }
}
