/** Runs of calls, worked out by hand, in which several sentences of the document meet. */
public final class MeetingTests {
    private static final Class<IllegalArgumentException> ARGUMENT = IllegalArgumentException.class;
    private static final Class<IllegalStateException> STATE = IllegalStateException.class;
    private static final int NONE = OrganCorners.NONE;

    private MeetingTests() {
    }

    public static void main(String[] args) {
        crewsThatMoveOnWetDay();
        permitsAndFurtherLots();
        cornerThatComesLater();
        memoryAcrossDays();
        tunesAndTakingsNearby();
        percentsThatChange();
        crewAndBarrelBehindPlay();
        quietHoursAcrossDays();
        thoseWhoComeLater();
        runOverDaysEnd();
        runsThatStop();
        refusedRun();
        statesAmongRuns();
        undoneDays();
        Checks.end("MeetingTests");
    }

    private static void dueGot(String what, OrganCorners town, int player, int got, int fromFund) {
        Checks.due(what + ": got of player " + player, town.player(player, 2), got);
        Checks.due(what + ": of that from the fund", town.player(player, 3), fromFund);
    }

    /** What was taken went to the town, the fund, owners, pots and players. */
    private static void dueAllOfTakings(String what, OrganCorners town) {
        int all = 0;
        for (int where = 10; where <= 14; where++) {
            all += town.count(where);
        }
        Checks.due(what + ": all of the takings", all, town.count(9));
    }

    /** "whatever the player did in this hour ahead of it", "in a crew or not", "by their hours at
     * this organ on this day", "who has fewer than 3 hours on this day at all organs together" */
    private static void crewsThatMoveOnWetDay() {
        OrganCorners town = Towns.pair();
        town.set(3, 100);
        town.weather(true);
        Checks.due("hour 0, organ 0", town.play(0, 0), 25);
        town.assign(0, 1);
        Checks.due("hour 0, organ 1", town.play(1, 1), 20);
        town.next();
        town.assign(1, 0);
        Checks.due("hour 1, organ 0", town.play(0, 2), 25);
        Checks.due("hour 1, organ 1", town.play(1, 3), 20);
        town.assign(0, NONE);
        town.assign(1, NONE);
        Checks.due("hours of player 0", town.player(0, 1), 3);
        Checks.due("hours of player 1", town.player(1, 1), 2);
        Checks.due("hours of 0 at 1", town.hours(0, 1), 2);
        // the town's parts, 5 and 4 and 5 and 4, are all in the fund
        Checks.due("fund", town.count(11), 18);
        Checks.due("pot 0", town.organ(0, 5), 40);
        Checks.due("pot 1", town.organ(1, 5), 32);
        // pot 0 is halved; of pot 1, 64 / 3 is 21 remainder 1 and 32 / 3 is 10 remainder 2
        Checks.due("player 0 if it ended", town.ifEnded(0), 41);
        Checks.due("player 1 if it ended", town.ifEnded(1), 36);
        Towns.nextTimes(town, 9);
        dueGot("3 hours", town, 0, 41, 0);
        dueGot("2 hours", town, 1, 36, 5);
        Checks.due("fund then", town.count(11), 13);
        Checks.due("no pots", town.count(13), 0);
        Checks.due("hours so far", town.player(0, 4), 3);
        Checks.dueExactly("share", town.playersShare(), 77.0 / 90.0);
        dueAllOfTakings("behind a wet day", town);
    }

    /** "its corner stays on this day", "each organ with a permit, by number", "none, and nothing is
     * drawn, if m is 0" */
    private static void permitsAndFurtherLots() {
        OrganCorners town = Towns.pair();
        Checks.due("permits left", town.permit(0, false), 1);
        Checks.due("its corner stays", town.organ(0, 3), 0);
        Checks.due("and it plays there", town.play(0, 0), 50);
        Towns.nextTimes(town, 10);
        Checks.due("no corner then", town.whyNot(0, 0), 1);
        // the seeds make 16838, 5758, 10113, 17515, 31051, 5627, 23010 in turn
        Checks.due("lots for organ 1 alone", town.lots(), 1);
        Checks.due("organ 0 is without", town.organ(0, 3), NONE);
        Checks.due("10113 modulo 2", town.organ(1, 3), 1);
        Checks.due("drawn once", town.count(6) / 65536, 10113);
        town.permit(0, true);
        Checks.due("lots again", town.lots(), 2);
        Checks.due("17515 modulo 2", town.organ(0, 3), 1);
        Checks.due("the one that is left", town.organ(1, 3), 0);
        town.addOrgan(0);
        town.permit(2, true);
        Checks.due("lots for three", town.lots(), 2);
        Checks.due("5627 modulo 2", town.organ(0, 3), 1);
        Checks.due("organ 1 gets the last", town.organ(1, 3), 0);
        Checks.due("none for organ 2", town.organ(2, 3), NONE);
        Checks.due("nothing is drawn for it", town.count(6) / 65536, 23010);
        town.addCorner(99, 90, 0, 0);
        Checks.due("a free corner is not given by itself", town.organ(2, 3), NONE);
        Checks.due("no organ is there", town.corner(2, 3), NONE);
    }

    /** "the tunes against which reason 6 is there now, whatever organ there is" */
    private static void cornerThatComesLater() {
        OrganCorners town = Towns.pair();
        town.play(0, 4);
        town.addCorner(20, 90, 0, 0);
        town.addCorner(31, 90, 0, 0);
        Checks.due("heard at a distance of 10", town.corner(2, 5), 16);
        Checks.due("not heard at one of 21", town.corner(3, 5), 0);
        Checks.due("not played there", town.corner(2, 4), 0);
        town.set(0, 21);
        Checks.due("heard at 21 then", town.corner(3, 5), 16);
        town.undo();
        Checks.due("not when undone", town.corner(3, 5), 0);
        Checks.dueThrow(town, "no lots for them", STATE, town::lots);
        Towns.nextTimes(town, 2);
        Checks.due("heard for 2 hours", town.corner(2, 5), 16);
        town.next();
        Checks.due("and no longer", town.corner(2, 5), 0);
        Checks.due("played there on this day", town.corner(0, 4), 16);
    }

    /** "this tune was played on this day, in this hour, or in one of as many hours ahead of it as
     * setting 1 tells" */
    private static void memoryAcrossDays() {
        OrganCorners town = Towns.single(50, 1);
        town.play(0, 0);
        town.set(1, 9);
        Towns.nextTimes(town, 9);
        Checks.due("9 hours ahead", town.whyNot(0, 0), 6);
        Checks.due("another tune", town.whyNot(0, 1), 0);
        town.set(1, 8);
        Checks.due("with a memory of 8", town.play(0, 0), 50);
        town.set(1, 9);
        town.next();
        Checks.due("without a corner", town.whyNot(0, 0), 1);
        Checks.due("nothing heard", town.corner(0, 5), 0);
        town.lots();
        Checks.due("on another day", town.whyNot(0, 0), 0);
        town.undo();
        town.undo();
        Checks.due("on that day again", town.whyNot(0, 0), 4);
        Checks.due("heard again", town.corner(0, 5), 1);
        town.undo();
        town.undo();
        Checks.due("not played at its end", town.whyNot(0, 0), 0);
        town.undo();
        Checks.due("with the memory before", town.whyNot(0, 0), 6);
    }

    /** "of several such sets the one whose mask is the least", "the most pairs are left of another
     * organ and a tune that the other one could play" */
    private static void tunesAndTakingsNearby() {
        // 16838 modulo 3 is 2 and 5758 modulo 2 is 0: organ 0 is at 30, 1 at 10, 2 at 20
        OrganCorners town = Towns.taken(47, 10, 20, 30);
        town.weather(true);
        // 47 / 2; 37 / 2 with one other; 28 / 2 with two
        Checks.due("all of them", town.most(0), 55);
        Checks.due("these", town.most(1), 7);
        for (int organ = 0; organ < 3; organ++) {
            town.barrel(organ, 1);
        }
        Checks.due("one tune nearby", town.most(0), 23);
        Checks.due("the first of like ones", town.most(1), 1);
        town.set(0, 10);
        Checks.due("two that do not hear another", town.most(0), 46);
        Checks.due("these two", town.most(1), 3);
        town.barrel(2, 3);
        Checks.due("the third between them", town.most(0), 60);
        Checks.due("all three", town.most(1), 7);
        Checks.due("kindest", town.kindestTune(2), 1);
        Checks.due("takings of organ 1", town.play(1, 0), 23);
        Checks.due("reason", town.whyNot(2, 0), 6);
        Checks.due("kindest of what is left", town.kindestTune(2), 1);
        Checks.due("rest of the hour", town.most(0), 37);
        Checks.due("by these", town.most(1), 5);
        Checks.due("organ 2 now", town.ifPlayed(2), 18);
        Checks.due("organ 0 plays", town.play(0, 0), 23);
        Checks.due("organ 2 then", town.ifPlayed(2), 14);
        Checks.due("organ 2 alone is left", town.most(1), 4);
        town.set(0, 9);
        Checks.due("nobody is near at 9", town.ifPlayed(2), 23);
        Checks.due("nor is a tune", town.kindestTune(2), 0);
    }

    /** "takings * setting 2 / 100 are the part of the town": as the settings are at the play. */
    private static void percentsThatChange() {
        OrganCorners town = Towns.halfIsOwners();
        town.play(0, 0);
        Checks.due("town", town.count(10), 8);
        Checks.due("fund", town.count(11), 2);
        Checks.due("owner", town.organ(0, 6), 20);
        town.set(2, 50);
        town.set(3, 100);
        town.next();
        town.play(0, 1);
        Checks.due("town as before", town.count(10), 8);
        Checks.due("fund with 25 more", town.count(11), 27);
        Checks.due("owner with 12 more", town.organ(0, 6), 32);
        Checks.due("pot with 13 more", town.organ(0, 5), 33);
        town.set(2, 0);
        town.next();
        town.play(0, 2);
        Checks.due("fund as before", town.count(11), 27);
        Checks.due("owners", town.count(12), 57);
        Checks.due("pots", town.count(13), 58);
        dueAllOfTakings("with other percents", town);
        Towns.nextTimes(town, 8);
        Checks.due("the pot's player", town.player(0, 2), 58);
        dueAllOfTakings("behind that day", town);
    }

    /** "the first one of these that applies is the reason" */
    private static void crewAndBarrelBehindPlay() {
        OrganCorners town = Towns.pair();
        town.play(0, 0);
        Checks.due("played already", town.whyNot(0, 0), 4);
        town.barrel(0, 2);
        Checks.due("not on the barrel", town.whyNot(0, 0), 3);
        Checks.due("the tune of the hour", town.organ(0, 8), 0);
        Checks.due("another tune", town.whyNot(0, 1), 4);
        town.assign(0, 1);
        Checks.due("no crew", town.whyNot(0, 0), 2);
        Checks.due("it is heard all the same", town.whyNot(1, 0), 6);
        Checks.due("and is nearby", town.ifPlayed(1), 40);
        Checks.due("most", town.most(1), 2);
        town.play(1, 1);
        Checks.due("hours of player 0", town.player(0, 1), 2);
        Checks.due("hours of player 1", town.player(1, 1), 1);
        Checks.due("none is left", town.most(0), 0);
        Checks.due("no mask", town.most(1), 0);
        town.next();
        Checks.due("still no crew", town.whyNot(0, 1), 2);
        town.assign(0, 0);
        Checks.due("heard from organ 1", town.whyNot(0, 1), 6);
        town.barrel(0, 4);
        Checks.due("a tune that was not heard", town.play(0, 2), 50);
    }

    /** "behind 9 comes 0" */
    private static void quietHoursAcrossDays() {
        OrganCorners town = new OrganCorners();
        town.addCorner(50, 90, 9, 2);
        Towns.addOrgans(town, 1);
        town.lots();
        Checks.due("quiet in hour 0", town.whyNot(0, 0), 5);
        Checks.due("nothing would be taken", town.ifPlayed(0), NONE);
        Checks.due("run in hours 1 and 8", Towns.run(town,
                "next;0:a;next;next;next;next;next;next;next;0:a"), 10);
        Checks.due("hour 8", town.count(4), 8);
        Checks.due("in hour 9 no more", Towns.run(town, "next;0:b"), 1);
        Checks.due("quiet in hour 9", town.corner(0, 2), 1);
        Checks.due("nor in hour 0", Towns.run(town, "next;lots;0:b"), 2);
        Checks.due("but in hour 1", Towns.run(town, "next;0:b"), 2);
        Checks.due("three in all", town.count(8), 3);
        Checks.due("one on this day", town.count(7), 1);
        Checks.due("of that pot", town.ifEnded(0), 72);
        Checks.due("of the pot before", town.player(0, 2), 144);
    }

    /** "Then, if the day was wet, each player by number, in a crew or not" */
    private static void thoseWhoComeLater() {
        OrganCorners town = Towns.single(90, 1);
        town.set(2, 50);
        town.set(3, 40);
        town.weather(true);
        town.play(0, 0);
        // 45 * 50 / 100 is 22, and 22 * 40 / 100 is 8
        Checks.due("fund", town.count(11), 8);
        Towns.nextTimes(town, 9);
        Checks.due("player 1", town.addPlayer(), 1);
        Checks.due("player 2", town.addPlayer(), 2);
        Checks.due("organ 1", town.addOrgan(50), 1);
        town.permit(1, true);
        town.barrel(1, 1023);
        town.assign(2, 1);
        Checks.due("no corner on this day", town.whyNot(1, 0), 1);
        Checks.due("player 0 if it ended", town.ifEnded(0), 28);
        Checks.due("player 1 if it ended", town.ifEnded(1), 3);
        Checks.due("player 2 if it ended", town.ifEnded(2), 0);
        town.next();
        dueGot("1 hour", town, 0, 28, 5);
        dueGot("in no crew", town, 1, 3, 3);
        dueGot("nothing left", town, 2, 0, 0);
        Checks.due("fund then", town.count(11), 0);
        Checks.due("one corner", town.lots(), 1);
        Checks.due("organ 0 has it", town.corner(0, 3), 0);
        town.permit(0, false);
        Checks.due("one corner again", town.lots(), 1);
        Checks.due("organ 1 has it", town.corner(0, 3), 1);
        Checks.due("takings", town.play(1, 0), 90);
        Checks.due("half of the rest", town.organ(1, 6), 22);
        Checks.due("the player's", town.ifEnded(2), 23);
        dueAllOfTakings("on the second day", town);
    }

    /** "Undoable, as one call", "Then the next day begins, with hour 0, dry, without hours" */
    private static void runOverDaysEnd() {
        OrganCorners town = Towns.single(50, 2);
        town.weather(true);
        town.play(0, 0);
        long before = town.digest();
        String day = "next;next;next;next;next;next;next;next;next;next";
        Checks.due("12 orders", Towns.run(town, day + ";lots;wet"), 12);
        Checks.due("day", town.count(3), 1);
        Checks.due("wet again", town.count(5), 1);
        Checks.due("at its corner again", town.organ(0, 3), 0);
        // of 25 taken 5 go to the town, 1 of them to the fund: that is all that there is
        dueGot("the first", town, 0, 11, 1);
        dueGot("the second", town, 1, 10, 0);
        Checks.due("fund", town.count(11), 0);
        Checks.due("no hours", town.hours(0, 0), 0);
        Checks.due("a seventh state", town.count(15), 6);
        Checks.due("one undo", town.undo(), 5);
        Checks.due("day then", town.count(3), 0);
        Checks.due("wet then", town.count(5), 1);
        Checks.due("pot then", town.organ(0, 5), 20);
        Checks.due("fund then", town.count(11), 1);
        dueGot("not yet", town, 0, 0, 0);
        Checks.due("hours then", town.player(1, 1), 1);
        Checks.dueThrow("the text is not restored", ARGUMENT, town::run);
        town.set(0, 20);
        Checks.due("all as before", town.digest(), before);
        Checks.due("done again", Towns.run(town, day), 10);
        dueGot("as then", town, 0, 11, 1);
    }

    /** "up to the first one whose method would throw an exception; clears the buffer" */
    private static void runsThatStop() {
        OrganCorners town = Towns.pair();
        Checks.due("wet, behind a play", Towns.run(town, "0:a;wet;next"), 1);
        Checks.due("the hour goes on", town.count(4), 0);
        Checks.due("lots, behind a play", Towns.run(town, "1:b;lots;next"), 1);
        Checks.due("the same organ", Towns.run(town, "0:c;next"), 0);
        Checks.due("the same tune nearby", Towns.run(town, "next;0:b;1:c"), 1);
        Checks.due("no organ 2", Towns.run(town, "0:d;2:a;1:c"), 1);
        Checks.due("played so far", town.count(8), 3);
        Checks.due("the text is cleared", town.clearBuffer(), 0);
        town.undo();
        Checks.due("undone", town.count(8), 2);
        town.undo();
        Checks.due("the hour is undone", town.count(4), 0);
        town.undo();
        Checks.due("nothing was done by that one", town.count(8), 2);
        town.undo();
        Checks.due("the second play is undone", town.count(8), 1);
        town.undo();
        Checks.due("the first play is undone", town.count(8), 0);
        Checks.due("the weather may change again", Towns.run(town, "wet;lots;dry;wet;0:a;0:b"), 5);
        Checks.due("wet", town.count(5), 1);
        OrganCorners fresh = new OrganCorners();
        Checks.due("nothing there", Towns.run(fresh, "4:j"), 0);
        Checks.due("a saved state all the same", fresh.count(15), 1);
        Checks.due("lots without organs", Towns.run(fresh, "lots;next;lots;wet"), 2);
        Checks.due("dry", fresh.count(5), 0);
    }

    /** "A call that throws an exception changes nothing" */
    private static void refusedRun() {
        OrganCorners town = Towns.pair();
        Towns.type(town, "next;");
        Checks.dueThrow(town, "not complete", ARGUMENT, town::run);
        Checks.due("no order is done", town.count(4), 0);
        Towns.type(town, "0:k");
        Checks.due("no such tune", town.firstError(), 7);
        Checks.dueThrow(town, "an error", ARGUMENT, town::run);
        town.undo();
        Checks.due("undo keeps the text", town.firstError(), 7);
        Checks.due("its length", town.clearBuffer(), 8);
        Towns.type(town, "next;next");
        Checks.due("both orders", town.run(), 2);
        Checks.due("hour", town.count(4), 2);
    }

    /** "At most 6 states are saved; the oldest one is dropped first." */
    private static void statesAmongRuns() {
        OrganCorners town = new OrganCorners();
        town.addCorner(0, 1, 0, 0);
        town.addOrgan(7);
        town.addPlayer();
        Towns.run(town, "next;wet");
        town.set(0, 5);
        town.permit(0, false);
        town.barrel(0, 0);
        town.assign(0, 0);
        for (int left = 5; left >= 3; left--) {
            Checks.due("undo", town.undo(), left);
        }
        Checks.due("setting", town.setting(0), 5);
        Checks.due("wet", town.count(5), 1);
        town.set(0, 6);
        town.set(0, 6);
        Checks.due("saved again", town.count(15), 5);
        for (int left = 4; left >= 2; left--) {
            Checks.due("undo again", town.undo(), left);
        }
        Checks.due("setting before", town.setting(0), 20);
        Checks.due("hour 1", town.count(4), 1);
        Checks.due("undo of the run", town.undo(), 1);
        Checks.due("hour 0", town.count(4), 0);
        Checks.due("dry", town.count(5), 0);
        Checks.due("undo of the player", town.undo(), 0);
        Checks.due("no player", town.count(2), 0);
        Checks.due("the organ stays", town.organ(0, 0), 7);
        Checks.dueThrow(town, "the others are dropped", STATE, town::undo);
        Checks.due("the player comes again", town.addPlayer(), 0);
        Checks.due("in no crew", town.player(0, 0), NONE);
    }

    /** "Restores the latest saved state": the seed, hours, tunes and corners with it. */
    private static void undoneDays() {
        OrganCorners town = Towns.pairInHour(8);
        town.play(0, 0);
        town.next();
        town.play(1, 1);
        long before = town.digest();
        int seed = town.count(6);
        town.next();
        town.lots();
        town.play(0, 1);
        Checks.due("hours on the new day", town.player(0, 1), 1);
        for (int left = 5; left >= 3; left--) {
            Checks.due("undo", town.undo(), left);
        }
        Checks.due("seed", town.count(6), seed);
        Checks.due("tunes at corner 0", town.corner(0, 4), 1);
        Checks.due("tunes at corner 1", town.corner(1, 4), 2);
        Checks.due("tune of the hour", town.organ(1, 8), 1);
        Checks.due("its pot", town.organ(1, 5), 40);
        Checks.due("hours of this day", town.player(0, 1), 1);
        town.set(0, 20);
        town.set(0, 20);
        town.set(0, 20);
        Checks.due("all as before", town.digest(), before);
        town.next();
        town.lots();
        Checks.due("drawn as before", town.play(0, 1), 50);
    }
}
