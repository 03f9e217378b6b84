/**
 * Permits for street organs: corners drawn by lot, tunes, quiet hours, takings shared by hours, a
 * fund for wet days, orders as texts, and undo. The promises stand in the project's document.
 */
public final class OrganCorners {
    public static final int NONE = -1;

    private static final int MAX_CORNERS = 10;
    private static final int MAX_ORGANS = 5;
    private static final int MAX_PLAYERS = 8;
    private static final int MAX_PLACE = 99;
    private static final int MAX_CROWD = 90;
    private static final int MAX_OWNER_PERCENT = 50;
    private static final int MAX_SAVED = 6;
    private static final int MAX_SIGNS = 60;
    private static final int FIRST_CODE = 33;
    private static final int LAST_CODE = 126;

    private static final int HOURS = 10;
    private static final int TUNES = 10;
    private static final int ALL_TUNES = 1023;
    private static final int HOURS_WITHOUT_ALLOWANCE = 3;

    private static final int DISTANCE = 0;
    private static final int MEMORY = 1;
    private static final int TOWN_PERCENT = 2;
    private static final int FUND_PERCENT = 3;
    private static final int ALLOWANCE = 4;
    private static final int SETTINGS = 5;
    private static final int[] FIRST_SETTINGS = {20, 2, 20, 25, 5};
    private static final int[] GREATEST_SETTINGS = {99, 9, 50, 100, 50};

    private static final int NO_REASON = 0;
    private static final int NO_CORNER = 1;
    private static final int NO_CREW = 2;
    private static final int NOT_ON_BARREL = 3;
    private static final int PLAYED_ALREADY = 4;
    private static final int QUIET_HOUR = 5;
    private static final int HEARD_NEARBY = 6;

    private static final int COUNTS = 16;
    private static final int CORNER_PROPERTIES = 6;
    private static final int ORGAN_PROPERTIES = 9;
    private static final int PLAYER_PROPERTIES = 5;

    private static final long SEED_FACTOR = 1103515245L;
    private static final long SEED_STEP = 12345L;
    private static final long SEED_LIMIT = 2147483648L;
    private static final int SEED_DIVISOR = 65536;

    private static final long DIGEST_START = 2297L;
    private static final long DIGEST_FACTOR = 31L;
    private static final int FRACTION_BITS = 52;
    private static final int EXPONENT_OF_ONE = 1023;
    private static final int MOST_HALVINGS = 64;

    private static final OrderKind[] ORDER_KINDS = OrderKind.values();

    private final Town town = new Town();
    private final SavedTowns savedTowns = new SavedTowns();
    private final OrderText text = new OrderText();
    private final Payout payout = new Payout();
    private final Outlook outlook = new Outlook();

    public OrganCorners() {
    }

    // ---- corners, organs, players, settings

    public int addCorner(int place, int crowd, int first, int quiet)
            throws IllegalArgumentException, IllegalStateException {
        requireInRange(place, 0, MAX_PLACE);
        requireInRange(crowd, 1, MAX_CROWD);
        requireInRange(first, 0, HOURS - 1);
        requireInRange(quiet, 0, HOURS - 1);
        requireState(town.cornerCount < MAX_CORNERS && !town.hasCornerAt(place));
        savedTowns.save(town);
        Corner corner = town.corners[town.cornerCount];
        corner.place = place;
        corner.crowd = crowd;
        corner.firstQuiet = first;
        corner.quietHours = quiet;
        town.cornerCount++;
        return town.cornerCount - 1;
    }

    public int addOrgan(int percent) throws IllegalArgumentException, IllegalStateException {
        requireInRange(percent, 0, MAX_OWNER_PERCENT);
        requireState(town.organCount < MAX_ORGANS);
        savedTowns.save(town);
        town.organs[town.organCount].ownerPercent = percent;
        town.organCount++;
        return town.organCount - 1;
    }

    public int addPlayer() throws IllegalStateException {
        requireState(town.playerCount < MAX_PLAYERS);
        savedTowns.save(town);
        town.playerCount++;
        return town.playerCount - 1;
    }

    public int permit(int organ, boolean permit) throws IndexOutOfBoundsException {
        requireIndex(organ, town.organCount);
        savedTowns.save(town);
        town.organs[organ].hasPermit = permit;
        return town.permits();
    }

    public int barrel(int organ, int tunes)
            throws IndexOutOfBoundsException, IllegalArgumentException {
        requireIndex(organ, town.organCount);
        requireInRange(tunes, 0, ALL_TUNES);
        savedTowns.save(town);
        int before = town.organs[organ].tunes;
        town.organs[organ].tunes = tunes;
        return before;
    }

    public int assign(int player, int organ) throws IndexOutOfBoundsException {
        requireIndex(player, town.playerCount);
        if (organ != NONE) {
            requireIndex(organ, town.organCount);
        }
        savedTowns.save(town);
        int before = town.players[player].crewOf;
        town.players[player].crewOf = organ;
        return before;
    }

    public int set(int setting, int value)
            throws IndexOutOfBoundsException, IllegalArgumentException {
        requireIndex(setting, SETTINGS);
        requireInRange(value, 0, GREATEST_SETTINGS[setting]);
        savedTowns.save(town);
        int before = town.settings[setting];
        town.settings[setting] = value;
        return before;
    }

    // ---- days

    public int lots() throws IllegalStateException {
        requireState(town.lotsMayBeDrawn());
        savedTowns.save(town);
        return town.drawLots();
    }

    public int weather(boolean wet) throws IllegalStateException {
        requireState(town.weatherMayChange());
        savedTowns.save(town);
        int before = asNumber(town.wet);
        town.wet = wet;
        return before;
    }

    public int play(int organ, int tune)
            throws IndexOutOfBoundsException, IllegalArgumentException, IllegalStateException {
        requireIndex(organ, town.organCount);
        requireInRange(tune, 0, TUNES - 1);
        requireState(town.reasonAgainst(organ, tune) == NO_REASON);
        savedTowns.save(town);
        return town.playTune(organ, tune);
    }

    public int next() {
        savedTowns.save(town);
        town.endHour(payout);
        return town.hour;
    }

    // ---- texts

    public int append(int code) throws IllegalArgumentException, IllegalStateException {
        requireInRange(code, FIRST_CODE, LAST_CODE);
        requireState(text.length < MAX_SIGNS);
        text.signs[text.length] = code;
        text.length++;
        return text.length;
    }

    public int clearBuffer() {
        int before = text.length;
        text.length = 0;
        return before;
    }

    public int firstError() {
        return text.errorIndex();
    }

    public int run() throws IllegalArgumentException {
        if (!text.isWholeRow()) {
            throw new IllegalArgumentException("no complete row of orders");
        }
        savedTowns.save(town);
        int done = 0;
        int start = 0;
        while (start < text.length) {
            OrderKind kind = text.kindAt(start);
            if (kind == null || !obey(kind, start)) {
                break;
            }
            done++;
            start += kind.signCount() + 1;
        }
        text.length = 0;
        return done;
    }

    public int undo() throws IllegalStateException {
        requireState(savedTowns.count > 0);
        savedTowns.restore(town);
        return savedTowns.count;
    }

    // ---- what there is

    public int corner(int corner, int what)
            throws IndexOutOfBoundsException, IllegalArgumentException {
        requireIndex(corner, town.cornerCount);
        requireInRange(what, 0, CORNER_PROPERTIES - 1);
        Corner there = town.corners[corner];
        switch (what) {
            case 0:
                return there.place;
            case 1:
                return there.crowd;
            case 2:
                return asNumber(there.isQuietAt(town.hour));
            case 3:
                return town.organAt(corner);
            case 4:
                return there.tunesPlayed(0, HOURS - 1);
            default:
                return town.tunesHeardAt(there);
        }
    }

    public int organ(int organ, int what)
            throws IndexOutOfBoundsException, IllegalArgumentException {
        requireIndex(organ, town.organCount);
        requireInRange(what, 0, ORGAN_PROPERTIES - 1);
        Organ it = town.organs[organ];
        switch (what) {
            case 0:
                return it.ownerPercent;
            case 1:
                return asNumber(it.hasPermit);
            case 2:
                return it.tunes;
            case 3:
                return it.corner;
            case 4:
                return town.crewSize(organ);
            case 5:
                return it.pot;
            case 6:
                return it.cameToOwner;
            case 7:
                return it.takings;
            default:
                return it.tuneOfHour;
        }
    }

    public int player(int player, int what)
            throws IndexOutOfBoundsException, IllegalArgumentException {
        requireIndex(player, town.playerCount);
        requireInRange(what, 0, PLAYER_PROPERTIES - 1);
        Player who = town.players[player];
        switch (what) {
            case 0:
                return who.crewOf;
            case 1:
                return who.hoursOfDay();
            case 2:
                return who.got;
            case 3:
                return who.gotFromFund;
            default:
                return who.hoursSoFar;
        }
    }

    public int hours(int player, int organ) throws IndexOutOfBoundsException {
        requireIndex(player, town.playerCount);
        requireIndex(organ, town.organCount);
        return town.players[player].hoursAt[organ];
    }

    public int count(int what) throws IllegalArgumentException {
        requireInRange(what, 0, COUNTS - 1);
        switch (what) {
            case 0:
                return town.cornerCount;
            case 1:
                return town.organCount;
            case 2:
                return town.playerCount;
            case 3:
                return town.day;
            case 4:
                return town.hour;
            case 5:
                return asNumber(town.wet);
            case 6:
                return town.seed;
            case 7:
                return town.playedOnDay;
            case 8:
                return town.playedSoFar;
            case 9:
                return town.takingsSoFar();
            case 10:
                return town.treasury;
            case 11:
                return town.fund;
            case 12:
                return town.ownersSoFar();
            case 13:
                return town.inAllPots();
            case 14:
                return town.playersSoFar();
            default:
                return savedTowns.count;
        }
    }

    public int setting(int setting) throws IndexOutOfBoundsException {
        requireIndex(setting, SETTINGS);
        return town.settings[setting];
    }

    // ---- what would be; nothing is changed

    public int whyNot(int organ, int tune)
            throws IndexOutOfBoundsException, IllegalArgumentException {
        requireIndex(organ, town.organCount);
        requireInRange(tune, 0, TUNES - 1);
        return town.reasonAgainst(organ, tune);
    }

    public int ifPlayed(int organ) throws IndexOutOfBoundsException {
        requireIndex(organ, town.organCount);
        if (town.playableTunes(organ) == 0) {
            return NONE;
        }
        return town.takingsFor(organ, town.playedNear(organ));
    }

    public int kindestTune(int organ) throws IndexOutOfBoundsException {
        requireIndex(organ, town.organCount);
        outlook.lookAt(town);
        return outlook.leastHindering(town, organ);
    }

    public int most(int what) throws IllegalArgumentException {
        requireInRange(what, 0, 1);
        outlook.lookAt(town);
        outlook.findMost(town);
        return what == 0 ? outlook.mostTakings : outlook.mostOrgans;
    }

    public int ifEnded(int player) throws IndexOutOfBoundsException {
        requireIndex(player, town.playerCount);
        payout.reckon(town);
        return payout.fromPots[player] + payout.fromFund[player];
    }

    public double playersShare() {
        int takings = town.takingsSoFar();
        if (takings == 0) {
            return 0.0;
        }
        return (double) town.playersSoFar() / (double) takings;
    }

    public long digest() {
        long hash = DIGEST_START;
        for (int what = 0; what < COUNTS; what++) {
            hash = mixed(hash, count(what));
        }
        for (int which = 0; which < SETTINGS; which++) {
            hash = mixed(hash, setting(which));
        }
        for (int which = 0; which < town.cornerCount; which++) {
            hash = withCorner(hash, which);
        }
        for (int which = 0; which < town.organCount; which++) {
            hash = withOrgan(hash, which);
        }
        for (int which = 0; which < town.playerCount; which++) {
            hash = withPlayer(hash, which);
        }
        hash = mixed(hash, most(0));
        hash = mixed(hash, most(1));
        hash = mixed(hash, bitsOfShare(playersShare()));
        return withText(hash);
    }

    // ---- parts of the calls above

    private static void requireIndex(int index, int size) {
        if (index < 0 || index >= size) {
            throw new IndexOutOfBoundsException("no such number");
        }
    }

    private static void requireInRange(int value, int least, int greatest) {
        if (value < least || value > greatest) {
            throw new IllegalArgumentException("out of range");
        }
    }

    private static void requireState(boolean allowed) {
        if (!allowed) {
            throw new IllegalStateException("not now");
        }
    }

    private static int asNumber(boolean flag) {
        return flag ? 1 : 0;
    }

    private static boolean holds(int mask, int number) {
        return (mask >> number & 1) == 1;
    }

    /** Does one order of the text; false, and nothing is done, if its method would throw. */
    private boolean obey(OrderKind kind, int start) {
        switch (kind) {
            case LOTS:
                if (!town.lotsMayBeDrawn()) {
                    return false;
                }
                town.drawLots();
                return true;
            case WET:
            case DRY:
                if (!town.weatherMayChange()) {
                    return false;
                }
                town.wet = kind == OrderKind.WET;
                return true;
            case NEXT:
                town.endHour(payout);
                return true;
            default:
                return obeyPlay(text.organAt(start), text.tuneAt(start));
        }
    }

    private boolean obeyPlay(int organ, int tune) {
        if (organ < 0 || organ >= town.organCount || tune < 0 || tune >= TUNES
                || town.reasonAgainst(organ, tune) != NO_REASON) {
            return false;
        }
        town.playTune(organ, tune);
        return true;
    }

    private static long mixed(long hash, long value) {
        return DIGEST_FACTOR * hash + value;
    }

    private long withCorner(long start, int which) {
        long hash = start;
        for (int what = 0; what < CORNER_PROPERTIES; what++) {
            hash = mixed(hash, corner(which, what));
        }
        return hash;
    }

    private long withOrgan(long start, int which) {
        long hash = start;
        for (int what = 0; what < ORGAN_PROPERTIES; what++) {
            hash = mixed(hash, organ(which, what));
        }
        for (int tune = 0; tune < TUNES; tune++) {
            hash = mixed(hash, whyNot(which, tune));
        }
        hash = mixed(hash, ifPlayed(which));
        return mixed(hash, kindestTune(which));
    }

    private long withPlayer(long start, int which) {
        long hash = start;
        for (int what = 0; what < PLAYER_PROPERTIES; what++) {
            hash = mixed(hash, player(which, what));
        }
        for (int organ = 0; organ < town.organCount; organ++) {
            hash = mixed(hash, hours(which, organ));
        }
        return mixed(hash, ifEnded(which));
    }

    private long withText(long start) {
        long hash = mixed(start, text.length);
        for (int index = 0; index < text.length; index++) {
            hash = mixed(hash, text.signs[index]);
        }
        return hash;
    }

    /**
     * The bits that Double.doubleToLongBits, which is not in the language's library, would answer.
     * A share is 0 or from 2^-31 to 1: players get nothing that was not taken before.
     */
    private static long bitsOfShare(double share) {
        if (share <= 0.0) {
            return 0L;
        }
        double scaled = share;
        long exponent = EXPONENT_OF_ONE;
        for (int step = 0; step < MOST_HALVINGS && scaled < 1.0; step++) {
            scaled = scaled * 2.0;
            exponent--;
        }
        long fraction = (long) ((scaled - 1.0) * (double) (1L << FRACTION_BITS));
        return (exponent << FRACTION_BITS) + fraction;
    }

    private static final class Corner {
        int place;
        int crowd;
        int firstQuiet;
        int quietHours;
        final int[] tunesByHour = new int[HOURS];

        void copyFrom(Corner other) {
            place = other.place;
            crowd = other.crowd;
            firstQuiet = other.firstQuiet;
            quietHours = other.quietHours;
            System.arraycopy(other.tunesByHour, 0, tunesByHour, 0, HOURS);
        }

        boolean isQuietAt(int hour) {
            return (hour - firstQuiet + HOURS) % HOURS < quietHours;
        }

        int distanceTo(Corner other) {
            return Math.abs(place - other.place);
        }

        /** The tunes that were played here from one hour of this day to another, as a bit mask. */
        int tunesPlayed(int firstHour, int lastHour) {
            int tunes = 0;
            for (int hour = Math.max(firstHour, 0); hour <= lastHour && hour < HOURS; hour++) {
                tunes |= tunesByHour[hour];
            }
            return tunes;
        }

        void noteTune(int hour, int tune) {
            if (hour >= 0 && hour < HOURS) {
                tunesByHour[hour] |= 1 << tune;
            }
        }

        void forgetDay() {
            for (int hour = 0; hour < HOURS; hour++) {
                tunesByHour[hour] = 0;
            }
        }
    }

    private static final class Organ {
        int ownerPercent;
        boolean hasPermit;
        int tunes;
        int corner = NONE;
        int pot;
        int cameToOwner;
        int takings;
        int tuneOfHour = NONE;

        void copyFrom(Organ other) {
            ownerPercent = other.ownerPercent;
            hasPermit = other.hasPermit;
            tunes = other.tunes;
            corner = other.corner;
            pot = other.pot;
            cameToOwner = other.cameToOwner;
            takings = other.takings;
            tuneOfHour = other.tuneOfHour;
        }
    }

    private static final class Player {
        int crewOf = NONE;
        int got;
        int gotFromFund;
        int hoursSoFar;
        final int[] hoursAt = new int[MAX_ORGANS];

        void copyFrom(Player other) {
            crewOf = other.crewOf;
            got = other.got;
            gotFromFund = other.gotFromFund;
            hoursSoFar = other.hoursSoFar;
            System.arraycopy(other.hoursAt, 0, hoursAt, 0, MAX_ORGANS);
        }

        int hoursOfDay() {
            int sum = 0;
            for (int organ = 0; organ < MAX_ORGANS; organ++) {
                sum += hoursAt[organ];
            }
            return sum;
        }

        void forgetDay() {
            for (int organ = 0; organ < MAX_ORGANS; organ++) {
                hoursAt[organ] = 0;
            }
        }
    }

    /**
     * All that undo restores. Every row is made once, at its full length, so that a call makes no
     * objects; the rows behind the counts are always as a new town has them.
     */
    private static final class Town {
        final Corner[] corners = new Corner[MAX_CORNERS];
        final Organ[] organs = new Organ[MAX_ORGANS];
        final Player[] players = new Player[MAX_PLAYERS];
        final int[] settings = new int[SETTINGS];
        int cornerCount;
        int organCount;
        int playerCount;
        int day;
        int hour;
        boolean wet;
        int seed = 1;
        int playedOnDay;
        int playedSoFar;
        int treasury;
        int fund;

        Town() {
            for (int corner = 0; corner < MAX_CORNERS; corner++) {
                corners[corner] = new Corner();
            }
            for (int organ = 0; organ < MAX_ORGANS; organ++) {
                organs[organ] = new Organ();
            }
            for (int player = 0; player < MAX_PLAYERS; player++) {
                players[player] = new Player();
            }
            System.arraycopy(FIRST_SETTINGS, 0, settings, 0, SETTINGS);
        }

        void copyFrom(Town other) {
            for (int corner = 0; corner < MAX_CORNERS; corner++) {
                corners[corner].copyFrom(other.corners[corner]);
            }
            for (int organ = 0; organ < MAX_ORGANS; organ++) {
                organs[organ].copyFrom(other.organs[organ]);
            }
            for (int player = 0; player < MAX_PLAYERS; player++) {
                players[player].copyFrom(other.players[player]);
            }
            System.arraycopy(other.settings, 0, settings, 0, SETTINGS);
            cornerCount = other.cornerCount;
            organCount = other.organCount;
            playerCount = other.playerCount;
            day = other.day;
            hour = other.hour;
            wet = other.wet;
            seed = other.seed;
            playedOnDay = other.playedOnDay;
            playedSoFar = other.playedSoFar;
            treasury = other.treasury;
            fund = other.fund;
        }

        boolean hasCornerAt(int place) {
            for (int corner = 0; corner < cornerCount; corner++) {
                if (corners[corner].place == place) {
                    return true;
                }
            }
            return false;
        }

        int permits() {
            int sum = 0;
            for (int organ = 0; organ < organCount; organ++) {
                if (organs[organ].hasPermit) {
                    sum++;
                }
            }
            return sum;
        }

        int crewSize(int organ) {
            int sum = 0;
            for (int player = 0; player < playerCount; player++) {
                if (players[player].crewOf == organ) {
                    sum++;
                }
            }
            return sum;
        }

        int organAt(int corner) {
            for (int organ = 0; organ < organCount; organ++) {
                if (organs[organ].corner == corner) {
                    return organ;
                }
            }
            return NONE;
        }

        /** The corner that an organ has, null if it has none. */
        Corner cornerOf(int organ) {
            int corner = organs[organ].corner;
            return corner >= 0 && corner < cornerCount ? corners[corner] : null;
        }

        int takingsSoFar() {
            int sum = 0;
            for (int organ = 0; organ < organCount; organ++) {
                sum += organs[organ].takings;
            }
            return sum;
        }

        int ownersSoFar() {
            int sum = 0;
            for (int organ = 0; organ < organCount; organ++) {
                sum += organs[organ].cameToOwner;
            }
            return sum;
        }

        int inAllPots() {
            int sum = 0;
            for (int organ = 0; organ < organCount; organ++) {
                sum += organs[organ].pot;
            }
            return sum;
        }

        int playersSoFar() {
            int sum = 0;
            for (int player = 0; player < playerCount; player++) {
                sum += players[player].got;
            }
            return sum;
        }

        boolean weatherMayChange() {
            return playedOnDay == 0;
        }

        boolean lotsMayBeDrawn() {
            return hour == 0 && playedOnDay == 0;
        }

        /** Draws lots; answers how many organs have a corner then. */
        int drawLots() {
            takeCornersBack();
            int withCorner = 0;
            for (int organ = 0; organ < organCount; organ++) {
                int free = cornerCount - withCorner;
                if (organs[organ].hasPermit && free > 0) {
                    organs[organ].corner = freeCorner(draw(free));
                    withCorner++;
                }
            }
            return withCorner;
        }

        private void takeCornersBack() {
            for (int organ = 0; organ < organCount; organ++) {
                organs[organ].corner = NONE;
            }
        }

        private int draw(int size) {
            seed = (int) ((SEED_FACTOR * seed + SEED_STEP) % SEED_LIMIT);
            return size > 0 ? seed / SEED_DIVISOR % size : 0;
        }

        /** The corner at a place, from 0, among those that no organ has. */
        private int freeCorner(int place) {
            int ahead = place;
            for (int corner = 0; corner < cornerCount; corner++) {
                if (organAt(corner) == NONE) {
                    if (ahead == 0) {
                        return corner;
                    }
                    ahead--;
                }
            }
            return NONE;
        }

        /** Whether two organs have corners, at a distance that counts. */
        boolean areNear(int organ, int other) {
            Corner here = cornerOf(organ);
            Corner there = cornerOf(other);
            return here != null && there != null && here.distanceTo(there) <= settings[DISTANCE];
        }

        /** The tunes against which reason 6 is at a corner in the present hour, as a bit mask. */
        int tunesHeardAt(Corner here) {
            int tunes = 0;
            for (int corner = 0; corner < cornerCount; corner++) {
                Corner there = corners[corner];
                if (here.distanceTo(there) <= settings[DISTANCE]) {
                    tunes |= there.tunesPlayed(hour - settings[MEMORY], hour);
                }
            }
            return tunes;
        }

        /** The first of the reasons against all tunes of an organ alike. */
        private int reasonAgainstAll(int organ) {
            Corner here = cornerOf(organ);
            if (here == null) {
                return NO_CORNER;
            }
            if (crewSize(organ) == 0) {
                return NO_CREW;
            }
            if (organs[organ].tuneOfHour != NONE) {
                return PLAYED_ALREADY;
            }
            return here.isQuietAt(hour) ? QUIET_HOUR : NO_REASON;
        }

        int reasonAgainst(int organ, int tune) {
            int reason = reasonAgainstAll(organ);
            boolean onBarrel = holds(organs[organ].tunes, tune);
            // Of the reasons against all tunes alike, 1 and 2 go ahead of 3; 4 and 5 do not.
            if (!onBarrel && reason != NO_CORNER && reason != NO_CREW) {
                return NOT_ON_BARREL;
            }
            Corner here = cornerOf(organ);
            if (reason == NO_REASON && here != null && holds(tunesHeardAt(here), tune)) {
                return HEARD_NEARBY;
            }
            return reason;
        }

        /** The tunes that an organ can play now, as a bit mask. */
        int playableTunes(int organ) {
            Corner here = cornerOf(organ);
            if (here == null || reasonAgainstAll(organ) != NO_REASON) {
                return 0;
            }
            return organs[organ].tunes & ~tunesHeardAt(here);
        }

        /** How many other organs near an organ played in this hour already. */
        int playedNear(int organ) {
            int sum = 0;
            for (int other = 0; other < organCount; other++) {
                if (other != organ && organs[other].tuneOfHour != NONE && areNear(organ, other)) {
                    sum++;
                }
            }
            return sum;
        }

        /** The takings of an organ behind so many others near it. */
        int takingsFor(int organ, int others) {
            Corner here = cornerOf(organ);
            if (here == null) {
                return 0;
            }
            int dry = Math.max(here.crowd * (10 - 2 * others) / 10, 0);
            return wet ? dry / 2 : dry;
        }

        /** Plays a tune against which there is no reason; answers the takings. */
        int playTune(int organ, int tune) {
            Corner here = cornerOf(organ);
            if (here == null) {
                return 0;
            }
            int takings = takingsFor(organ, playedNear(organ));
            divideTakings(organs[organ], takings);
            addHourOfCrew(organ);
            here.noteTune(hour, tune);
            organs[organ].tuneOfHour = tune;
            playedOnDay++;
            playedSoFar++;
            return takings;
        }

        private void divideTakings(Organ organ, int takings) {
            int townPart = takings * settings[TOWN_PERCENT] / 100;
            int fundPart = townPart * settings[FUND_PERCENT] / 100;
            int left = takings - townPart;
            int ownerPart = left * organ.ownerPercent / 100;
            fund += fundPart;
            treasury += townPart - fundPart;
            organ.cameToOwner += ownerPart;
            organ.pot += left - ownerPart;
            organ.takings += takings;
        }

        private void addHourOfCrew(int organ) {
            for (int player = 0; player < playerCount; player++) {
                if (players[player].crewOf == organ) {
                    players[player].hoursAt[organ]++;
                    players[player].hoursSoFar++;
                }
            }
        }

        void endHour(Payout payout) {
            for (int organ = 0; organ < organCount; organ++) {
                organs[organ].tuneOfHour = NONE;
            }
            hour++;
            if (hour >= HOURS) {
                payout.reckon(this);
                payOut(payout);
                beginDay();
            }
        }

        private void payOut(Payout payout) {
            for (int player = 0; player < playerCount; player++) {
                int allowance = payout.fromFund[player];
                players[player].got += payout.fromPots[player] + allowance;
                players[player].gotFromFund += allowance;
                fund -= allowance;
            }
            // A pot that is not empty has hours of this day behind it, so none is left over.
            for (int organ = 0; organ < organCount; organ++) {
                organs[organ].pot = 0;
            }
        }

        private void beginDay() {
            day++;
            hour = 0;
            wet = false;
            playedOnDay = 0;
            takeCornersBack();
            for (int corner = 0; corner < cornerCount; corner++) {
                corners[corner].forgetDay();
            }
            for (int player = 0; player < playerCount; player++) {
                players[player].forgetDay();
            }
        }
    }

    /** The towns that undo can restore: a ring, so that dropping the oldest one moves none. */
    private static final class SavedTowns {
        final Town[] ring = new Town[MAX_SAVED];
        int oldest;
        int count;

        SavedTowns() {
            for (int place = 0; place < MAX_SAVED; place++) {
                ring[place] = new Town();
            }
        }

        void save(Town town) {
            ring[(oldest + count) % MAX_SAVED].copyFrom(town);
            if (count < MAX_SAVED) {
                count++;
            } else {
                oldest = (oldest + 1) % MAX_SAVED;
            }
        }

        void restore(Town town) {
            if (count > 0) {
                count--;
                town.copyFrom(ring[(oldest + count) % MAX_SAVED]);
            }
        }
    }

    /** What each player would get if the day ended now. */
    private static final class Payout {
        final int[] fromPots = new int[MAX_PLAYERS];
        final int[] fromFund = new int[MAX_PLAYERS];
        final int[] remainders = new int[MAX_PLAYERS];

        void reckon(Town town) {
            for (int player = 0; player < MAX_PLAYERS; player++) {
                fromPots[player] = 0;
                fromFund[player] = 0;
            }
            for (int organ = 0; organ < town.organCount; organ++) {
                sharePot(town, organ);
            }
            if (town.wet) {
                giveAllowances(town);
            }
        }

        private void sharePot(Town town, int organ) {
            int pot = town.organs[organ].pot;
            int allHours = 0;
            for (int player = 0; player < town.playerCount; player++) {
                allHours += town.players[player].hoursAt[organ];
            }
            if (pot == 0 || allHours == 0) {
                return;
            }
            int left = pot;
            for (int player = 0; player < town.playerCount; player++) {
                int weighed = pot * town.players[player].hoursAt[organ];
                fromPots[player] += weighed / allHours;
                remainders[player] = weighed % allHours;
                left -= weighed / allHours;
            }
            giveUnits(left, town.playerCount);
        }

        private void giveUnits(int units, int playerCount) {
            for (int unit = 0; unit < units && unit < playerCount; unit++) {
                int first = 0;
                for (int player = 1; player < playerCount; player++) {
                    if (remainders[player] > remainders[first]) {
                        first = player;
                    }
                }
                fromPots[first]++;
                remainders[first] = NONE;
            }
        }

        private void giveAllowances(Town town) {
            int fund = town.fund;
            for (int player = 0; player < town.playerCount; player++) {
                if (town.players[player].hoursOfDay() < HOURS_WITHOUT_ALLOWANCE) {
                    fromFund[player] = Math.min(town.settings[ALLOWANCE], fund);
                    fund -= fromFund[player];
                }
            }
        }
    }

    /** What the organs could still do in the present hour. */
    private static final class Outlook {
        final int[] playable = new int[MAX_ORGANS];
        final int[] chosen = new int[MAX_ORGANS];
        int mostTakings;
        int mostOrgans;

        void lookAt(Town town) {
            for (int organ = 0; organ < town.organCount; organ++) {
                playable[organ] = town.playableTunes(organ);
            }
        }

        int leastHindering(Town town, int organ) {
            int kindest = NONE;
            int leastHindered = MAX_ORGANS;
            for (int tune = 0; tune < TUNES; tune++) {
                if (holds(playable[organ], tune)) {
                    int pairs = hinderedPairs(town, organ, tune);
                    if (pairs < leastHindered) {
                        leastHindered = pairs;
                        kindest = tune;
                    }
                }
            }
            return kindest;
        }

        /** How many others could no longer play a tune: just these pairs are not left behind it. */
        private int hinderedPairs(Town town, int organ, int tune) {
            int sum = 0;
            for (int other = 0; other < town.organCount; other++) {
                if (other != organ && holds(playable[other], tune) && town.areNear(organ, other)) {
                    sum++;
                }
            }
            return sum;
        }

        /** Takings do not depend on tunes, so a set is weighed first and its tunes sought then. */
        void findMost(Town town) {
            mostTakings = 0;
            mostOrgans = 0;
            for (int set = 1; set < 1 << town.organCount; set++) {
                int takings = takingsOf(town, set);
                if (takings > mostTakings && findTunes(town, playable, chosen, set, 0)) {
                    mostTakings = takings;
                    mostOrgans = set;
                }
            }
        }

        private static int takingsOf(Town town, int set) {
            int sum = 0;
            for (int organ = 0; organ < town.organCount; organ++) {
                if (holds(set, organ)) {
                    int others = town.playedNear(organ) + nearAhead(town, set, organ);
                    sum += town.takingsFor(organ, others);
                }
            }
            return sum;
        }

        private static int nearAhead(Town town, int set, int organ) {
            int sum = 0;
            for (int other = 0; other < organ; other++) {
                if (holds(set, other) && town.areNear(organ, other)) {
                    sum++;
                }
            }
            return sum;
        }

        /** Chooses a tune for each organ of a set from one organ on; the depth is the organ. */
        private static boolean findTunes(Town town, int[] playable, int[] chosen, int set,
                int organ) {
            if (organ >= town.organCount || organ >= MAX_ORGANS) {
                return true;
            }
            if (!holds(set, organ)) {
                return findTunes(town, playable, chosen, set, organ + 1);
            }
            for (int tune = 0; tune < TUNES; tune++) {
                if (holds(playable[organ], tune) && isFree(town, chosen, set, organ, tune)) {
                    chosen[organ] = tune;
                    if (findTunes(town, playable, chosen, set, organ + 1)) {
                        return true;
                    }
                }
            }
            return false;
        }

        private static boolean isFree(Town town, int[] chosen, int set, int organ, int tune) {
            for (int other = 0; other < organ; other++) {
                if (holds(set, other) && chosen[other] == tune && town.areNear(organ, other)) {
                    return false;
                }
            }
            return true;
        }
    }

    /** The kinds of orders; each sign of an order lies between those of its kind at that index. */
    private enum OrderKind {
        LOTS("lots", "lots"),
        WET("wet", "wet"),
        DRY("dry", "dry"),
        NEXT("next", "next"),
        PLAY("0:a", "4:j");

        private final String least;
        private final String greatest;

        OrderKind(String least, String greatest) {
            this.least = least;
            this.greatest = greatest;
        }

        int signCount() {
            return least.length();
        }

        boolean fits(int index, int sign) {
            return index >= 0 && index < least.length() && index < greatest.length()
                    && sign >= least.charAt(index) && sign <= greatest.charAt(index);
        }
    }

    private static final class OrderText {
        final int[] signs = new int[MAX_SIGNS];
        int length;

        /** The kind of the order that begins at an index, null if none does. No two begin alike. */
        OrderKind kindAt(int start) {
            if (start < 0 || start >= length) {
                return null;
            }
            for (int index = 0; index < ORDER_KINDS.length; index++) {
                if (ORDER_KINDS[index].fits(0, signs[start])) {
                    return ORDER_KINDS[index];
                }
            }
            return null;
        }

        int errorIndex() {
            int start = 0;
            while (start < length) {
                OrderKind kind = kindAt(start);
                if (kind == null) {
                    return start;
                }
                int end = start + kind.signCount();
                for (int index = start; index < end && index < length; index++) {
                    if (!kind.fits(index - start, signs[index])) {
                        return index;
                    }
                }
                if (end < length && signs[end] != ';') {
                    return end;
                }
                start = end + 1;
            }
            return length;
        }

        boolean isWholeRow() {
            if (errorIndex() < length) {
                return false;
            }
            int start = 0;
            while (start < length) {
                OrderKind kind = kindAt(start);
                if (kind == null) {
                    return false;
                }
                start += kind.signCount() + 1;
            }
            // Only behind a whole order the next one would begin just behind one more sign.
            return start == length + 1;
        }

        /** The organ of a play order that begins at an index, NONE if the text ends ahead of it. */
        int organAt(int start) {
            return start >= 0 && start < length ? signs[start] - '0' : NONE;
        }

        /** The tune of a play order that begins at an index, NONE if the text ends ahead of it. */
        int tuneAt(int start) {
            return start >= 0 && start + 2 < length ? signs[start + 2] - 'a' : NONE;
        }
    }
}
