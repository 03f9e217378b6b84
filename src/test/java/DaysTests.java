/** The boundary cases of the document's "Days and hours", sentence by sentence. */
public final class DaysTests {
    private static final Class<IllegalStateException> STATE = IllegalStateException.class;
    private static final int NONE = OrganCorners.NONE;

    private DaysTests() {
    }

    public static void main(String[] args) {
        daysAndHours();
        reasonsAlone();
        firstReason();
        reasonOfDistance();
        reasonOfMemory();
        takings();
        othersNearby();
        partsOfTakings();
        hoursOfCrew();
        dayEnds();
        potsAmongLikeHours();
        potsAmongUnlikeHours();
        fundNeedsWetDay();
        fundAndHours();
        fundRunsOut();
        nextDay();
        Checks.end("DaysTests");
    }

    /**
     * "A day has 10 hours, numbered from 0. There are a present day and a present hour, at first
     * both 0. A day is dry or wet; each is dry at first."
     */
    private static void daysAndHours() {
        OrganCorners town = new OrganCorners();
        Checks.due("first day", town.count(3), 0);
        Checks.due("first hour", town.count(4), 0);
        Checks.due("dry at first", town.count(5), 0);
        for (int call = 1; call <= 30; call++) {
            if (call % 10 == 1) {
                Checks.due("dry at first, day " + town.count(3), town.weather(true), 0);
            }
            Checks.due("hour behind 9 is 0", town.next(), call % 10);
            Checks.due("day ends with hour 9", town.count(3), call / 10);
            Checks.due("wet up to its end", town.count(5), call % 10 == 0 ? 0 : 1);
        }
    }

    /** One corner with a quiet hour 1; an organ without corner, crew and tunes, and a player. */
    private static OrganCorners bare() {
        OrganCorners town = new OrganCorners();
        town.addCorner(10, 50, 1, 1);
        town.addOrgan(0);
        town.addPlayer();
        town.permit(0, true);
        return town;
    }

    private static OrganCorners ready() {
        OrganCorners town = bare();
        town.lots();
        town.assign(0, 0);
        town.barrel(0, 3);
        return town;
    }

    private static void dueReason(String what, OrganCorners town, int tune, int reason) {
        Checks.due(what, town.whyNot(0, tune), reason);
        if (reason != 0) {
            Checks.dueThrow(what + ": play", STATE, () -> town.play(0, tune));
        }
    }

    /** "1: it has no corner; 2: it has no crew; ... 5: the hour is a quiet one of its corner" */
    private static void reasonsAlone() {
        OrganCorners noCorner = bare();
        noCorner.assign(0, 0);
        noCorner.barrel(0, 3);
        dueReason("1 alone", noCorner, 0, 1);
        OrganCorners noCrew = ready();
        noCrew.assign(0, NONE);
        dueReason("2 alone", noCrew, 0, 2);
        OrganCorners noTune = ready();
        noTune.barrel(0, 1021);
        dueReason("3 alone", noTune, 1, 3);
        dueReason("3 not for the tune below", noTune, 0, 0);
        dueReason("3 not for the tune above", noTune, 2, 0);
        OrganCorners ends = ready();
        ends.barrel(0, 513);
        dueReason("3 not for tune 9", ends, 9, 0);
        dueReason("3 for tune 8", ends, 8, 3);
        OrganCorners played = ready();
        played.play(0, 0);
        dueReason("4 alone", played, 1, 4);
        OrganCorners quiet = ready();
        dueReason("5 not ahead of the quiet hour", quiet, 0, 0);
        quiet.next();
        dueReason("5 alone", quiet, 0, 5);
        quiet.next();
        dueReason("5 not behind the quiet hour", quiet, 0, 0);
        OrganCorners heard = ready();
        heard.play(0, 0);
        Towns.nextTimes(heard, 2);
        dueReason("6 alone", heard, 0, 6);
        dueReason("6 not for another tune", heard, 1, 0);
    }

    /** "the first one of these that applies is the reason": each two that may apply together */
    private static void firstReason() {
        OrganCorners town = bare();
        dueReason("1 ahead of 2 and 3", town, 0, 1);
        town.barrel(0, 3);
        dueReason("1 ahead of 2", town, 0, 1);
        town.barrel(0, 0);
        town.assign(0, 0);
        dueReason("1 ahead of 3", town, 0, 1);
        town.lots();
        town.assign(0, NONE);
        dueReason("2 ahead of 3", town, 0, 2);
        town.barrel(0, 3);
        town.assign(0, 0);
        town.play(0, 0);
        dueReason("4 ahead of 6", town, 0, 4);
        dueReason("3 ahead of 4", town, 2, 3);
        town.barrel(0, 2);
        dueReason("3 ahead of 4 and 6", town, 0, 3);
        town.assign(0, NONE);
        dueReason("2 ahead of 4", town, 1, 2);
        dueReason("2 ahead of 3, 4 and 6", town, 0, 2);
        town.next();
        dueReason("2 ahead of 5", town, 1, 2);
        town.assign(0, 0);
        dueReason("3 ahead of 5", town, 2, 3);
        town.barrel(0, 3);
        dueReason("5 ahead of 6", town, 0, 5);
        town.next();
        town.barrel(0, 2);
        dueReason("3 ahead of 6", town, 0, 3);
        town.barrel(0, 3);
        town.assign(0, NONE);
        dueReason("2 ahead of 6", town, 0, 2);
    }

    /** Two corners and the distance; whether a tune of the one is a reason 6 at the other. */
    private static void dueHeard(int place, int other, int distance, boolean heard) {
        OrganCorners town = Towns.taken(50, place, other);
        town.set(0, distance);
        int player = town.corner(0, 3);
        town.play(player, 4);
        String what = "places " + place + " and " + other + ", distance " + distance;
        Checks.due(what, town.whyNot(1 - player, 4), heard ? 6 : 0);
        Checks.due(what + ", as a mask", town.corner(1, 5), heard ? 16 : 0);
        Checks.due(what + ", another tune", town.whyNot(1 - player, 5), 0);
        Checks.due(what + ", others", town.ifPlayed(1 - player), heard ? 40 : 50);
    }

    /**
     * "at a corner whose distance from its corner is at most setting 0 (by whatever organ, also by
     * itself; the distance of two corners is that of their places)"
     */
    private static void reasonOfDistance() {
        int[] first = {20, 19, 21};
        for (int distance : first) {
            dueHeard(30, 30 + distance, 20, distance <= 20);
            dueHeard(30 + distance, 30, 20, distance <= 20);
        }
        dueHeard(0, 99, 99, true);
        dueHeard(99, 0, 99, true);
        dueHeard(0, 99, 98, false);
        dueHeard(99, 0, 98, false);
        dueHeard(50, 51, 1, true);
        dueHeard(51, 50, 1, true);
        dueHeard(50, 51, 0, false);
        dueHeard(51, 50, 0, false);
        OrganCorners itself = Towns.single(50, 1);
        itself.set(0, 0);
        itself.play(0, 4);
        itself.next();
        Checks.due("distance 0: by itself", itself.whyNot(0, 4), 6);
    }

    /** "in this hour, or in one of as many hours ahead of it as setting 1 tells (0: in this hour
     * alone)", "on this day" */
    private static void reasonOfMemory() {
        // in hour h tune h is played; then, for each memory, which tunes are heard
        OrganCorners town = Towns.taken(50, 10, 20);
        int listener = town.corner(1, 3);
        for (int hour = 0; hour < 10; hour++) {
            town.play(1 - listener, hour);
            for (int memory = 0; memory < 10; memory++) {
                town.set(1, memory);
                int mask = 0;
                for (int tune = Math.max(0, hour - memory); tune <= hour; tune++) {
                    mask |= 1 << tune;
                }
                Checks.due("hour " + hour + ", memory " + memory, town.corner(1, 5), mask);
            }
            Checks.due("the first tune, memory 9", town.whyNot(listener, 0), 6);
            town.set(1, 0);
            Checks.due("memory 0: this hour alone", town.whyNot(listener, hour), 6);
            Checks.due("memory 0: none of before", town.whyNot(listener, (hour + 9) % 10), 0);
            town.next();
        }
        town.set(1, 9);
        town.lots();
        Checks.due("none of the day before", town.corner(1, 5), 0);
        Checks.due("no tune of the day before", town.whyNot(0, 9), 0);
        OrganCorners later = Towns.single(50, 1);
        Towns.nextTimes(later, 4);
        later.play(0, 6);
        later.next();
        int[] due = {6, 6, 0, 0, 0};
        for (int ago = 1; ago <= 5; ago++) {
            Checks.due("memory 2, " + ago + " hours ago", later.whyNot(0, 6), due[ago - 1]);
            later.next();
        }
    }

    /**
     * "crowd * (10 - 2 * others) / 10 then, but at least 0, and on a wet day half of that"; five
     * organs have at most four others, so that it never is below 0
     */
    private static void takings() {
        for (int crowd = 1; crowd <= 90; crowd++) {
            OrganCorners dry = Towns.taken(crowd, 0, 1, 2, 3, 4);
            OrganCorners wet = Towns.taken(crowd, 0, 1, 2, 3, 4);
            wet.weather(true);
            for (int others = 0; others < 5; others++) {
                int organ = 4 - others;
                int due = crowd * (10 - 2 * others) / 10;
                String what = "crowd " + crowd + ", others " + others;
                Checks.due(what + ", would be", dry.ifPlayed(organ), due);
                Checks.due(what, dry.play(organ, others), due);
                Checks.due(what + ", wet, would be", wet.ifPlayed(organ), due / 2);
                Checks.due(what + ", wet", wet.play(organ, others), due / 2);
            }
        }
    }

    /**
     * "others is the number of organs that played in this hour already at corners at a distance of
     * at most setting 0"
     */
    private static void othersNearby() {
        OrganCorners town = Towns.taken(50, 0, 20, 41, 60, 99);
        int[] at = new int[5];
        for (int corner = 0; corner < 5; corner++) {
            at[corner] = town.corner(corner, 3);
        }
        Checks.due("none played yet", town.ifPlayed(at[1]), 50);
        town.play(at[2], 0);
        Checks.due("one at 21", town.ifPlayed(at[1]), 50);
        Checks.due("one at 19", town.ifPlayed(at[3]), 40);
        town.play(at[0], 1);
        Checks.due("one at 20", town.ifPlayed(at[1]), 40);
        town.set(0, 21);
        Checks.due("two at 20 and 21", town.ifPlayed(at[1]), 30);
        town.set(0, 0);
        Checks.due("none at 0", town.ifPlayed(at[3]), 50);
        town.set(0, 99);
        Checks.due("two at 58 and 99", town.ifPlayed(at[4]), 30);
        town.set(0, 98);
        Checks.due("99 is beyond 98", town.ifPlayed(at[4]), 40);
        town.set(0, 99);
        town.next();
        Checks.due("not those of the hour before", town.play(at[1], 2), 50);
    }

    private static void dueParts(int crowd, int[] percents, int... due) {
        OrganCorners town = new OrganCorners();
        town.addCorner(10, crowd, 0, 0);
        town.addOrgan(percents[2]);
        town.permit(0, true);
        town.barrel(0, 1);
        town.addPlayer();
        town.assign(0, 0);
        town.set(2, percents[0]);
        town.set(3, percents[1]);
        town.lots();
        String what = "of " + crowd + " by " + percents[0] + ", " + percents[1] + ", "
                + percents[2];
        Checks.due(what + ": takings", town.play(0, 0), crowd);
        Checks.due(what + ": fund", town.count(11), due[0]);
        Checks.due(what + ": town", town.count(10), due[1]);
        Checks.due(what + ": owner", town.organ(0, 6), due[2]);
        Checks.due(what + ": owners", town.count(12), due[2]);
        Checks.due(what + ": pot", town.organ(0, 5), due[3]);
        Checks.due(what + ": pots", town.count(13), due[3]);
    }

    /**
     * "takings * setting 2 / 100 are the part of the town, and of this part, part * setting 3 / 100
     * comes to the fund, the rest to the town; of what is left of the takings, left * owner's
     * percent / 100 comes to the owner of the organ; all else comes into the pot", "divisions are
     * rounded down"
     */
    private static void partsOfTakings() {
        dueParts(90, new int[] {0, 0, 0}, 0, 0, 0, 90);
        dueParts(90, new int[] {0, 100, 50}, 0, 0, 45, 45);
        dueParts(90, new int[] {50, 0, 0}, 0, 45, 0, 45);
        dueParts(90, new int[] {50, 100, 50}, 45, 0, 22, 23);
        // 32.93 of 89, 9.6 of 32, 18.81 of 57
        dueParts(89, new int[] {37, 30, 33}, 9, 23, 18, 39);
        // 0.99 of 33, so that 33 are left: 16.5
        dueParts(33, new int[] {3, 100, 50}, 0, 0, 16, 17);
        // just 1 of 50, 0.99 of 1, 0.98 of 49
        dueParts(50, new int[] {2, 99, 2}, 0, 1, 0, 49);
        // just 1 of 1 and 1 of 50
        dueParts(51, new int[] {2, 100, 2}, 1, 0, 1, 49);
        dueParts(1, new int[] {50, 100, 50}, 0, 0, 0, 1);
        dueParts(2, new int[] {50, 100, 50}, 1, 0, 0, 1);
    }

    /**
     * "Each player who is in its crew has one hour more at this organ on this day (whatever the
     * player did in this hour ahead of it)."
     */
    private static void hoursOfCrew() {
        OrganCorners town = Towns.taken(50, 0, 30);
        town.addPlayer();
        town.play(0, 0);
        Checks.due("one hour more", town.hours(0, 0), 1);
        Checks.due("none of another crew", town.hours(1, 0), 0);
        Checks.due("none without a crew", town.player(2, 1), 0);
        town.assign(0, 1);
        town.assign(2, 0);
        town.play(1, 0);
        Checks.due("a second one in the same hour", town.hours(0, 1), 1);
        Checks.due("both together", town.player(0, 1), 2);
        Checks.due("none for who came behind the tune", town.hours(2, 0), 0);
        OrganCorners most = Towns.taken(50, 0, 25, 50, 75, 99);
        for (int hour = 0; hour < 10; hour++) {
            for (int organ = 0; organ < 5; organ++) {
                most.assign(0, organ);
                most.play(organ, hour);
            }
            most.next();
            if (hour == 8) {
                Checks.due("45 hours on one day", most.player(0, 1), 45);
                Checks.due("9 of them at the last organ", most.hours(0, 4), 9);
            }
        }
        Checks.due("50 hours so far", most.player(0, 4), 50);
        Checks.due("none on the next day", most.player(0, 1), 0);
        OrganCorners crew = Towns.single(50, 8);
        crew.play(0, 0);
        for (int player = 0; player < 8; player++) {
            Checks.due("each of a crew of 8", crew.hours(player, 0), 1);
        }
    }

    /** "The day ends when its last hour ends." */
    private static void dayEnds() {
        OrganCorners town = Towns.single(50, 1);
        town.play(0, 0);
        Towns.nextTimes(town, 9);
        Checks.due("not ended in hour 9", town.organ(0, 5), 40);
        Checks.due("nothing got in hour 9", town.player(0, 2), 0);
        Checks.due("its corner in hour 9", town.organ(0, 3), 0);
        town.next();
        Checks.due("pot behind the last hour", town.organ(0, 5), 0);
        Checks.due("got behind the last hour", town.player(0, 2), 40);
    }

    /** "what is left is given out in units of 1, at most one to each ... of like ones the player
     * with the lowest number first. (A pot of 0 is not shared.)" */
    private static void potsAmongLikeHours() {
        for (int players = 1; players <= 8; players++) {
            for (int pot = 1; pot <= 90; pot++) {
                OrganCorners town = Towns.single(pot, players);
                town.set(2, 0);
                town.play(0, 0);
                Towns.nextTimes(town, 10);
                for (int player = 0; player < players; player++) {
                    int due = pot / players + (player < pot % players ? 1 : 0);
                    Checks.due(pot + " among " + players, town.player(player, 2), due);
                }
            }
        }
        OrganCorners zero = Towns.single(1, 2);
        zero.weather(true);
        Checks.due("takings 0", zero.play(0, 0), 0);
        Checks.due("hours without a pot", zero.hours(0, 0), 1);
        Checks.due("nothing of a pot of 0, as it would be", zero.ifEnded(0), 0);
        Towns.nextTimes(zero, 10);
        Checks.due("nothing of a pot of 0", zero.player(0, 2), 0);
        Checks.due("the next day comes", zero.count(3), 1);
    }

    /** One organ of pot 1 a play: in each hour the players of a mask are its crew. */
    private static int[] sharesOf(int players, int... crews) {
        OrganCorners town = Towns.single(1, players);
        town.set(2, 0);
        for (int hour = 0; hour < 10; hour++) {
            for (int player = 0; player < players && hour < crews.length; player++) {
                town.assign(player, (crews[hour] >> player & 1) == 1 ? 0 : NONE);
            }
            if (hour < crews.length) {
                town.play(0, hour);
            }
            town.next();
        }
        int[] shares = new int[players];
        for (int player = 0; player < players; player++) {
            shares[player] = town.player(player, 2);
        }
        return shares;
    }

    private static void dueShares(String what, int[] got, int... due) {
        for (int player = 0; player < due.length; player++) {
            Checks.due(what + ", player " + player, got[player], due[player]);
        }
    }

    /** "pot * own hours / all of these hours, and what is left ... in the order of the remainders
     * of these divisions, the greatest one first" */
    private static void potsAmongUnlikeHours() {
        // 2 * 1 / 3 has remainder 2, 2 * 2 / 3 has 1
        dueShares("hours 1 and 2", sharesOf(2, 3, 2), 1, 1);
        // 2 * 2 / 3 is 1, remainder 1; 2 * 1 / 3 is 0, remainder 2
        dueShares("hours 2 and 1", sharesOf(2, 3, 1), 1, 1);
        // 3 * 2 / 5 is 1, remainder 1; 3 * 3 / 5 is 1, remainder 4
        dueShares("hours 2 and 3", sharesOf(2, 3, 3, 2), 1, 2);
        dueShares("hours 3 and 2", sharesOf(2, 3, 3, 1), 2, 1);
        // 3 * 3 / 6 is 1, remainder 3, for both
        dueShares("like remainders", sharesOf(2, 3, 3, 3), 2, 1);
        // hours 3, 3, 2, pot 3: 9 / 8 is 1, remainder 1, twice; 6 / 8 is 0, remainder 6
        dueShares("the third has the greatest", sharesOf(3, 7, 7, 3), 1, 1, 1);
        // hours 1, 1, 1 and 0, pot 1: remainders 1, 1, 1 and 0
        dueShares("nothing without hours", sharesOf(4, 14), 0, 1, 0, 0);
        dueShares("the last one alone", sharesOf(8, 128), 0, 0, 0, 0, 0, 0, 0, 1);
        // hours 10 and 1 of pot 10: 100 / 11 is 9, remainder 1; 10 / 11 is 0, remainder 10
        dueShares("ten hours", sharesOf(2, 1, 1, 1, 1, 1, 1, 1, 1, 1, 3), 9, 1);
        dueShares("ten hours of the second", sharesOf(2, 2, 2, 2, 2, 2, 2, 2, 2, 2, 3), 1, 9);
        atMostOneUnit();
        likeRemaindersOfUnlikeHours();
        byHoursAtThisOrgan();
    }

    /**
     * Pot 7, hours 3, 3 and 2: 21 / 8 is 2, remainder 5, twice, 14 / 8 is 1, remainder 6. So the
     * one with 2 hours gets the first of two units, and the lowest one of the others the second.
     */
    private static void atMostOneUnit() {
        int[][] due = {{2, 3, 2}, {3, 2, 2}, {3, 2, 2}};
        for (int leaves = 0; leaves < 3; leaves++) {
            OrganCorners town = Towns.single(3, 3);
            town.set(2, 0);
            town.play(0, 0);
            town.set(2, 50);
            town.next();
            town.play(0, 1);
            town.next();
            town.assign(leaves, NONE);
            town.play(0, 2);
            Checks.due("pot of 7", town.organ(0, 5), 7);
            Towns.nextTimes(town, 8);
            for (int player = 0; player < 3; player++) {
                Checks.due("at most one to each, 2 hours of " + leaves + ": player " + player,
                        town.player(player, 2), due[leaves][player]);
            }
        }
    }

    /** Pot 150, hours 3 and 1: 112 and 37, remainder 2 both; the unit is the first player's. */
    private static void likeRemaindersOfUnlikeHours() {
        for (int often = 0; often < 2; often++) {
            OrganCorners town = Towns.single(50, 2);
            town.set(2, 0);
            for (int hour = 0; hour < 3; hour++) {
                town.play(0, hour);
                town.assign(1 - often, NONE);
                town.next();
            }
            Towns.nextTimes(town, 7);
            Checks.due("like remainders, first", town.player(0, 2), often == 0 ? 113 : 38);
            Checks.due("like remainders, second", town.player(1, 2), often == 0 ? 37 : 112);
        }
    }

    private static void byHoursAtThisOrgan() {
        OrganCorners town = Towns.taken(50, 0, 50);
        town.set(2, 0);
        town.play(0, 0);
        town.assign(0, NONE);
        town.assign(1, 0);
        town.next();
        town.play(0, 1);
        town.assign(1, 1);
        for (int hour = 1; hour < 4; hour++) {
            town.play(1, hour);
            town.next();
        }
        // each has one hour of organ 0's pot of 100, wherever the players are and were besides
        Towns.nextTimes(town, 6);
        Checks.due("by hours at this organ, in no crew now", town.player(0, 2), 50);
        Checks.due("by hours at this organ", town.player(1, 2), 50 + 150);
    }

    /** "Then, if the day was wet, ..." */
    private static void fundNeedsWetDay() {
        OrganCorners wet = Towns.withFund(10, 1);
        Towns.nextTimes(wet, 9);
        Checks.due("not before the day ends", wet.player(0, 3), 0);
        Checks.due("as it would be", wet.ifEnded(0), 5);
        wet.next();
        Checks.due("wet", wet.player(0, 3), 5);
        Towns.nextTimes(wet, 10);
        Checks.due("the next day is dry", wet.player(0, 3), 5);
        OrganCorners dry = Towns.withFund(10, 1);
        dry.weather(false);
        Checks.due("dry, as it would be", dry.ifEnded(0), 0);
        Towns.nextTimes(dry, 10);
        Checks.due("dry", dry.player(0, 3), 0);
        Checks.due("dry, fund", dry.count(11), 10);
    }

    /** "each player by number, in a crew or not, who has fewer than 3 hours on this day at all
     * organs together" */
    private static void fundAndHours() {
        for (int hours = 0; hours <= 4; hours++) {
            OrganCorners town = Towns.withFund(45, 2);
            town.lots();
            town.set(2, 0);
            town.assign(1, NONE);
            for (int hour = 0; hour < hours; hour++) {
                town.play(0, hour);
                town.next();
            }
            Towns.nextTimes(town, 10 - hours);
            Checks.due("with " + hours + " hours", town.player(0, 3), hours < 3 ? 5 : 0);
            Checks.due("in no crew", town.player(1, 3), 5);
        }
        for (int more = 0; more < 2; more++) {
            OrganCorners two = Towns.taken(90, 0, 99);
            two.set(3, 100);
            two.weather(true);
            two.play(0, 0);
            two.next();
            two.play(0, 1);
            if (more == 1) {
                two.assign(0, 1);
                two.play(1, 0);
            }
            Towns.nextTimes(two, 9);
            Checks.due("2 at one organ, " + more + " at another", two.player(0, 3), 5 - 5 * more);
        }
    }

    private static void dueFromFund(int fund, int allowance, int left, int... due) {
        OrganCorners town = Towns.withFund(fund, due.length);
        int[] before = new int[due.length];
        for (int player = 0; player < due.length; player++) {
            before[player] = town.player(player, 2);
        }
        town.set(4, allowance);
        String what = "fund " + fund + ", allowance " + allowance + ", player ";
        for (int player = 0; player < due.length; player++) {
            Checks.due(what + player + " would get", town.ifEnded(player), due[player]);
        }
        Towns.nextTimes(town, 10);
        for (int player = 0; player < due.length; player++) {
            Checks.due(what + player, town.player(player, 3), due[player]);
            Checks.due(what + player + " got", town.player(player, 2),
                    before[player] + due[player]);
        }
        Checks.due(what + "none: what is left", town.count(11), left);
    }

    /** "gets as much as setting 4 tells out of the fund, but at most what is in it" */
    private static void fundRunsOut() {
        dueFromFund(0, 5, 0, 0, 0);
        dueFromFund(1, 5, 0, 1, 0);
        dueFromFund(4, 5, 0, 4, 0);
        dueFromFund(5, 5, 0, 5, 0);
        dueFromFund(6, 5, 0, 5, 1);
        dueFromFund(9, 5, 0, 5, 4);
        dueFromFund(10, 5, 0, 5, 5);
        dueFromFund(11, 5, 1, 5, 5);
        dueFromFund(10, 0, 10, 0, 0);
        dueFromFund(45, 50, 0, 45, 0);
        dueFromFund(8, 1, 0, 1, 1, 1, 1, 1, 1, 1, 1);
        dueFromFund(7, 1, 0, 1, 1, 1, 1, 1, 1, 1, 0);
        dueFromFund(9, 1, 1, 1, 1, 1, 1, 1, 1, 1, 1);
        OrganCorners sameDay = Towns.single(90, 1);
        sameDay.addPlayer();
        sameDay.set(2, 50);
        sameDay.set(3, 100);
        sameDay.set(4, 50);
        sameDay.weather(true);
        sameDay.play(0, 0);
        // takings 45, fund 22, pot 23
        Towns.nextTimes(sameDay, 10);
        Checks.due("out of this day's fund", sameDay.player(0, 3), 22);
        Checks.due("pot and fund", sameDay.player(0, 2), 45);
        Checks.due("none left for the next", sameDay.player(1, 3), 0);
        OrganCorners largest = Towns.withFund(45, 1);
        largest.weather(false);
        largest.lots();
        largest.play(0, 0);
        Towns.nextTimes(largest, 10);
        largest.set(4, 50);
        largest.weather(true);
        Towns.nextTimes(largest, 10);
        Checks.due("the largest allowance", largest.player(0, 3), 50);
        Checks.due("left of 90", largest.count(11), 40);
    }

    /** "Then the next day begins, with hour 0, dry, without hours, and no organ has a corner." */
    private static void nextDay() {
        OrganCorners town = Towns.taken(50, 0, 30);
        town.weather(true);
        town.play(0, 0);
        town.assign(0, 1);
        Towns.nextTimes(town, 9);
        town.play(1, 9);
        Checks.due("hour 0", town.next(), 0);
        Checks.due("day", town.count(3), 1);
        Checks.due("dry", town.count(5), 0);
        for (int player = 0; player < 2; player++) {
            Checks.due("without hours", town.player(player, 1), 0);
            for (int organ = 0; organ < 2; organ++) {
                Checks.due("without hours at it", town.hours(player, organ), 0);
            }
        }
        for (int number = 0; number < 2; number++) {
            Checks.due("no organ has a corner", town.organ(number, 3), NONE);
            Checks.due("no corner has an organ", town.corner(number, 3), NONE);
            Checks.due("no tunes", town.corner(number, 4), 0);
            Checks.due("not played in this hour", town.organ(number, 8), NONE);
            Checks.due("permits stay", town.organ(number, 1), 1);
            Checks.due("barrels stay", town.organ(number, 2), 1023);
        }
        Checks.due("crews stay", town.organ(1, 4), 2);
        Checks.due("nothing played on this day", town.count(7), 0);
        Checks.due("two played so far", town.count(8), 2);
    }
}
