/**
 * The promises 18 to 30, of the calls that only ask: the last argument that is allowed and the
 * first one that is not, each refused call, the empty and the full case of each answer, and that
 * asking changes nothing.
 */
public final class AnswerTests {
    private static final Class<IllegalArgumentException> ARGUMENT = IllegalArgumentException.class;
    private static final Class<IndexOutOfBoundsException> INDEX = IndexOutOfBoundsException.class;
    private static final int NONE = OrganCorners.NONE;

    private AnswerTests() {
    }

    public static void main(String[] args) {
        corner();
        cornerAtItsBounds();
        organ();
        player();
        hours();
        count();
        soFar();
        setting();
        whyNot();
        ifPlayed();
        kindestTune();
        kindestAmongIdle();
        most();
        ifEnded();
        playersShare();
        digest();
        Checks.end("AnswerTests");
    }

    /** "Throws IndexOutOfBoundsException if there is no such corner", "Throws
     * IllegalArgumentException if what is not 0 to 5" */
    private static void corner() {
        for (int property = 0; property <= 5; property++) {
            int what = property;
            Bounds.of("18 no corners", Towns::fresh, INDEX, 0, -1,
                    (town, it) -> town.corner(it, what));
            Bounds.of("18 3 corners", Towns::busy, INDEX, 0, 2,
                    (town, it) -> town.corner(it, what));
            Bounds.of("18 10 corners", Towns::full, INDEX, 0, 9,
                    (town, it) -> town.corner(it, what));
            Bounds.asks("18 corner", town -> town.corner(0, what));
        }
        Bounds.of("18 what", Towns::busy, ARGUMENT, 0, 5, (town, it) -> town.corner(2, it));
    }

    /** "3: the organ that has it, NONE if none has; 4: the tunes that were played there on this
     * day, as a bit mask; 5: the tunes against which reason 6 is there now" */
    private static void cornerAtItsBounds() {
        OrganCorners full = Towns.full();
        Checks.due("18 place of the last", full.corner(9, 0), 99);
        Checks.due("18 crowd of the last", full.corner(9, 1), 90);
        int taken = 0;
        for (int corner = 0; corner < 10; corner++) {
            int organ = full.corner(corner, 3);
            taken += organ == NONE ? 0 : 1;
            Checks.due("18 its organ's corner", organ == NONE ? corner : full.organ(organ, 3),
                    corner);
        }
        Checks.due("18 5 corners are taken", taken, 5);
        OrganCorners day = Towns.single(50, 1);
        Checks.due("18 no tunes yet", day.corner(0, 4), 0);
        Checks.due("18 no reason 6 yet", day.corner(0, 5), 0);
        int mask = 0;
        for (int hour = 0; hour < 10; hour++) {
            day.play(0, hour);
            mask |= 1 << hour;
            Checks.due("18 tunes up to hour " + hour, day.corner(0, 4), mask);
            day.set(1, 9);
            Checks.due("18 heard up to hour " + hour, day.corner(0, 5), mask);
            if (hour < 9) {
                day.next();
            }
        }
        Checks.due("18 all tunes", day.corner(0, 4), 1023);
        day.assign(0, NONE);
        day.barrel(0, 0);
        Checks.due("18 whatever organ there is", day.corner(0, 5), 1023);
        day.next();
        Checks.due("18 no tunes on the next day", day.corner(0, 4), 0);
        Checks.due("18 no reason 6 on the next day", day.corner(0, 5), 0);
    }

    /** "Throws IndexOutOfBoundsException if there is no such organ", "Throws
     * IllegalArgumentException if what is not 0 to 8" */
    private static void organ() {
        for (int property = 0; property <= 8; property++) {
            int what = property;
            Bounds.ofOrgans("19 property " + what, (town, it) -> town.organ(it, what));
            Bounds.asks("19 organ", town -> town.organ(1, what));
        }
        Bounds.of("19 what", Towns::busy, ARGUMENT, 0, 8, (town, it) -> town.organ(1, it));
        OrganCorners town = Towns.single(90, 8);
        Checks.due("19 a crew of all", town.organ(0, 4), 8);
        Checks.due("19 no tune yet", town.organ(0, 8), NONE);
        town.play(0, 9);
        Checks.due("19 tune 9", town.organ(0, 8), 9);
        town.next();
        Checks.due("19 no tune in the next hour", town.organ(0, 8), NONE);
        town.play(0, 0);
        Checks.due("19 tune 0", town.organ(0, 8), 0);
        for (int player = 0; player < 8; player++) {
            town.assign(player, NONE);
        }
        Checks.due("19 no crew", town.organ(0, 4), 0);
    }

    /** "Throws IndexOutOfBoundsException if there is no such player", "Throws
     * IllegalArgumentException if what is not 0 to 4" */
    private static void player() {
        for (int property = 0; property <= 4; property++) {
            int what = property;
            Bounds.ofPlayers("20 property " + what, (town, it) -> town.player(it, what));
            Bounds.asks("20 player", town -> town.player(2, what));
        }
        Bounds.of("20 what", Towns::busy, ARGUMENT, 0, 4, (town, it) -> town.player(2, it));
        OrganCorners town = Towns.withFund(3, 2);
        Checks.due("20 the second gets nothing", town.ifEnded(1), 0);
        Towns.nextTimes(town, 10);
        Checks.due("20 out of the fund, the first", town.player(0, 3), 3);
        Checks.due("20 out of the fund, the second", town.player(1, 3), 0);
        Checks.due("20 an hour so far", town.player(0, 4), 1);
        Checks.due("20 none on this day", town.player(0, 1), 0);
    }

    /** "Throws IndexOutOfBoundsException if there is no such player or organ" */
    private static void hours() {
        Bounds.ofPlayers("21 player", (town, it) -> town.hours(it, 0));
        Bounds.ofOrgans("21 organ", (town, it) -> town.hours(0, it));
        Bounds.of("21 the last player", Towns::full, INDEX, 0, 4, (town, it) -> town.hours(7, it));
        Bounds.of("21 the last organ", Towns::full, INDEX, 0, 7, (town, it) -> town.hours(it, 4));
        Twins.refused("21 neither", Towns::busy, INDEX, town -> town.hours(3, 2));
        Bounds.asks("21 hours", town -> town.hours(1, 1));
        OrganCorners organless = new OrganCorners();
        organless.addPlayer();
        Checks.dueThrow(organless, "21 no organs", INDEX, () -> organless.hours(0, 0));
    }

    /** "Throws IllegalArgumentException if what is not 0 to 15" */
    private static void count() {
        Bounds.of("22 what", Towns::fresh, ARGUMENT, 0, 15, (town, it) -> town.count(it));
        Bounds.of("22 what", Towns::busy, ARGUMENT, 0, 15, (town, it) -> town.count(it));
        for (int number = 0; number <= 15; number++) {
            int what = number;
            Bounds.asks("22 count", town -> town.count(what));
        }
        OrganCorners full = Towns.full();
        Checks.due("22 10 corners", full.count(0), 10);
        Checks.due("22 5 organs", full.count(1), 5);
        Checks.due("22 8 players", full.count(2), 8);
        Checks.due("22 6 states", full.count(15), 6);
        OrganCorners day = Towns.single(50, 1);
        for (int hour = 0; hour < 10; hour++) {
            Checks.due("22 played before hour " + hour, day.count(7), hour);
            day.play(0, hour);
            Checks.due("22 played up to hour " + hour, day.count(7), hour + 1);
            day.next();
        }
        Checks.due("22 none played on the next day", day.count(7), 0);
        Checks.due("22 all played so far", day.count(8), 10);
    }

    /** "Throws IndexOutOfBoundsException if there is no such setting" */
    private static void setting() {
        Bounds.of("23 setting", Towns::fresh, INDEX, 0, 4, (town, it) -> town.setting(it));
        Bounds.of("23 setting", Towns::busy, INDEX, 0, 4, (town, it) -> town.setting(it));
        for (int number = 0; number <= 4; number++) {
            int which = number;
            Bounds.asks("23 setting", town -> town.setting(which));
        }
    }

    /** "Returns the reason, 0 if there is none." */
    private static void whyNot() {
        Bounds.ofOrgans("24 organ", (town, it) -> town.whyNot(it, 0));
        Bounds.of("24 tune", Towns::busy, ARGUMENT, 0, 9, (town, it) -> town.whyNot(1, it));
        Bounds.of("24 tune of the last", Towns::full, ARGUMENT, 0, 9,
                (town, it) -> town.whyNot(4, it));
        for (int reason = 0; reason <= 6; reason++) {
            int why = reason;
            Checks.due("24 reason", Towns.pairWithReason(reason).whyNot(0, 0), reason);
            Twins.asked("24 whyNot", () -> Towns.pairWithReason(why), town -> town.whyNot(0, 0));
        }
        Bounds.asks("24 whyNot", town -> town.whyNot(0, 9));
    }

    /** "Returns the takings; NONE if there is a reason against each tune." */
    private static void ifPlayed() {
        Bounds.ofOrgans("25 organ", (town, it) -> town.ifPlayed(it));
        int[] due = {50, NONE, NONE, 50, NONE, NONE, 40};
        for (int reason = 0; reason <= 6; reason++) {
            Checks.due("25 reason " + reason, Towns.pairWithReason(reason).ifPlayed(0),
                    due[reason]);
        }
        for (int tune = 0; tune < 10; tune++) {
            OrganCorners town = Towns.pair();
            town.barrel(0, 1 << tune);
            Checks.due("25 its one tune", town.ifPlayed(0), 50);
            town.play(1, tune);
            Checks.due("25 reason 6 against its one tune", town.ifPlayed(0), NONE);
            town.barrel(0, 1 << tune | 1 << (tune + 1) % 10);
            Checks.due("25 none against another one", town.ifPlayed(0), 40);
            town.barrel(0, 0);
            Checks.due("25 no tunes", town.ifPlayed(0), NONE);
        }
        Checks.due("25 takings 0 are not NONE", Towns.wetCorner().ifPlayed(0), 0);
        Bounds.asks("25 ifPlayed", town -> town.ifPlayed(0));
    }

    /** "of several the lowest one; NONE if it can play none" */
    private static void kindestTune() {
        Bounds.ofOrgans("26 organ", (town, it) -> town.kindestTune(it));
        int[] due = {0, NONE, NONE, 1, NONE, NONE, 1};
        for (int reason = 0; reason <= 6; reason++) {
            Checks.due("26 reason " + reason, Towns.pairWithReason(reason).kindestTune(0),
                    due[reason]);
        }
        for (int tune = 0; tune < 10; tune++) {
            OrganCorners town = Towns.pair();
            town.barrel(0, 1 << tune);
            Checks.due("26 its one tune", town.kindestTune(0), tune);
            town.barrel(0, 1023 & -1 << tune);
            Checks.due("26 the lowest of like ones", town.kindestTune(0), tune);
            town.barrel(0, 1023);
            town.barrel(1, 1023 & ~(1 << tune));
            Checks.due("26 the only one that hinders none", town.kindestTune(0), tune);
        }
        Checks.due("26 without others", Towns.single(1, 1).kindestTune(0), 0);
        for (int other = 0; other < 5; other++) {
            OrganCorners five = Towns.taken(50, 0, 5, 10, 15, 20);
            for (int organ = 0; organ < 5; organ++) {
                five.barrel(organ, organ == other ? 1 : 2);
            }
            int asked = (other + 1) % 5;
            five.barrel(asked, 5);
            Checks.due("26 tune 0 hinders organ " + other, five.kindestTune(asked), 2);
        }
        Bounds.asks("26 kindestTune", town -> town.kindestTune(0));
    }

    /** "a tune that the other one could play in this hour": one against which there is a reason
     * ahead of the asked tune is not hindered by it */
    private static void kindestAmongIdle() {
        int[] due = {0, 1, 1, 1, 1, 1};
        for (int reason = 0; reason <= 5; reason++) {
            // the asked organ has the tunes 0 and 1, one near it 0, another near it 1
            OrganCorners town = new OrganCorners();
            town.addCorner(10, 50, 0, 0);
            town.addCorner(20, 50, 0, 0);
            town.addCorner(30, 50, 0, reason == 5 ? 1 : 0);
            Towns.addOrgans(town, 3);
            town.lots();
            int idle = town.corner(2, 3);
            if (reason == 1) {
                // just one of four gets no corner
                town.addOrgan(0);
                town.permit(3, true);
                town.addPlayer();
                town.assign(3, 3);
                town.lots();
                idle = 3;
            } else if (reason == 2) {
                town.assign(idle, NONE);
            } else if (reason == 4) {
                town.play(idle, 9);
            }
            int asked = (idle + 1) % 3;
            town.barrel(asked, 3);
            town.barrel((idle + 2) % 3, 1);
            town.barrel(idle, reason == 3 ? 4 : 2);
            Checks.due("26 idle for reason " + reason, town.whyNot(idle, 1), reason);
            Checks.due("26 beside one idle for " + reason, town.kindestTune(asked), due[reason]);
        }
        // tunes 0 and 1 hinder one each, if both are near: one is at 20, the other at 20 or 21
        for (int far = 20; far <= 21; far++) {
            OrganCorners town = Towns.taken(50, 30, 10, 30 + far);
            town.barrel(town.corner(0, 3), 3);
            town.barrel(town.corner(1, 3), 2);
            town.barrel(town.corner(2, 3), 1);
            Checks.due("26 tune 0 of one at " + far, town.kindestTune(town.corner(0, 3)), 0);
            town.barrel(town.corner(1, 3), 1);
            town.barrel(town.corner(2, 3), 2);
            Checks.due("26 tune 1 of one at " + far, town.kindestTune(town.corner(0, 3)), far - 20);
        }
        // places 0, 10, 20 and 40: at 20 tune 1 is heard from 40, at 0 it is not
        OrganCorners heard = Towns.taken(50, 0, 10, 20, 40);
        heard.barrel(heard.corner(0, 3), 3);
        heard.barrel(heard.corner(1, 3), 1);
        heard.barrel(heard.corner(2, 3), 2);
        Checks.due("26 each hinders one", heard.kindestTune(heard.corner(0, 3)), 0);
        heard.play(heard.corner(3, 3), 1);
        Checks.due("26 idle for reason 6", heard.whyNot(heard.corner(2, 3), 1), 6);
        Checks.due("26 beside one idle for 6", heard.kindestTune(heard.corner(0, 3)), 1);
    }

    /** "what came to its owner so far", "its takings so far", "what the player got so far",
     * "hours so far, on all days, with this one": they grow from day to day */
    private static void soFar() {
        OrganCorners town = Towns.halfIsOwners();
        for (int day = 1; day <= 8; day++) {
            town.lots();
            town.play(0, 0);
            // of 50 the town has 8 and the fund 2, the owner 20, the pot 20
            Checks.due("19 owner on day " + day, town.organ(0, 6), 20 * day);
            Checks.due("19 takings on day " + day, town.organ(0, 7), 50 * day);
            Checks.due("19 pot of one day", town.organ(0, 5), 20);
            Checks.due("20 got before the end of day " + day, town.player(0, 2), 20 * (day - 1));
            Checks.due("20 hours on day " + day, town.player(0, 4), day);
            Checks.due("20 hours of one day", town.player(0, 1), 1);
            Checks.due("22 played so far", town.count(8), day);
            Checks.due("22 played on one day", town.count(7), 1);
            Checks.due("22 takings", town.count(9), 50 * day);
            Checks.due("22 town", town.count(10), 8 * day);
            Checks.due("22 fund", town.count(11), 2 * day);
            Checks.due("22 owners", town.count(12), 20 * day);
            Checks.due("22 pots", town.count(13), 20);
            Checks.due("22 players", town.count(14), 20 * (day - 1));
            Towns.nextTimes(town, 10);
            Checks.due("22 no pots between days", town.count(13), 0);
            Checks.due("22 players behind the day", town.count(14), 20 * day);
        }
    }

    /** "Throws IllegalArgumentException if what is not 0 or 1", "the greatest takings, together, of
     * some organs (perhaps of none)", "(0 and the mask 0 if none can play)", "of several such sets
     * the one whose mask is the least" */
    private static void most() {
        Bounds.of("27 what", Towns::fresh, ARGUMENT, 0, 1, (town, it) -> town.most(it));
        Bounds.of("27 what", Towns::busy, ARGUMENT, 0, 1, (town, it) -> town.most(it));
        for (int what = 0; what <= 1; what++) {
            Checks.due("27 no organs", Towns.fresh().most(what), 0);
            Checks.due("27 takings 0", Towns.wetCorner().most(what), 0);
            OrganCorners all = Towns.pair();
            Checks.due("27 both can play", all.most(what), what == 0 ? 90 : 3);
            all.play(0, 0);
            all.play(1, 1);
            Checks.due("27 none can play", all.most(what), 0);
        }
        OrganCorners five = Towns.taken(90, 0, 25, 50, 75, 99);
        five.set(0, 0);
        Checks.due("27 all five, none near", five.most(0), 450);
        Checks.due("27 the mask of all", five.most(1), 31);
        five.set(0, 99);
        Checks.due("27 all five, all near", five.most(0), 90 + 72 + 54 + 36 + 18);
        Checks.due("27 the mask of all, near", five.most(1), 31);
        for (int organ = 0; organ < 5; organ++) {
            five.barrel(organ, 512);
        }
        Checks.due("27 one tune for all", five.most(0), 90);
        Checks.due("27 the least mask", five.most(1), 1);
        five.barrel(0, 0);
        Checks.due("27 the least mask without organ 0", five.most(1), 2);
        five.barrel(4, 1);
        Checks.due("27 two tunes", five.most(0), 162);
        Checks.due("27 the least mask with organ 4", five.most(1), 18);
        Bounds.asks("27 most", town -> town.most(0));
        Bounds.asks("27 most", town -> town.most(1));
    }

    /** "Returns what the player would get out of pots and the fund." */
    private static void ifEnded() {
        Bounds.ofPlayers("28 player", (town, it) -> town.ifEnded(it));
        Checks.due("28 nothing to get", Towns.full().ifEnded(7), 0);
        int players = Towns.busy().count(2);
        for (int player = 0; player < players; player++) {
            OrganCorners town = Towns.busy();
            int before = town.player(player, 2);
            int due = town.ifEnded(player);
            Towns.nextTimes(town, 6);
            Checks.due("28 as the day ends", town.player(player, 2) - before, due);
            Checks.due("28 nothing behind it", town.ifEnded(player), 0);
        }
        Bounds.asks("28 ifEnded", town -> town.ifEnded(0));
    }

    /** "count(14), as a double, divided by count(9); 0.0 if that is 0" */
    private static void playersShare() {
        Checks.dueExactly("29 nothing taken", Towns.fresh().playersShare(), 0.0);
        OrganCorners zero = Towns.wetCorner();
        zero.play(0, 0);
        Checks.dueExactly("29 takings 0", zero.playersShare(), 0.0);
        OrganCorners third = Towns.single(3, 1);
        third.set(2, 50);
        third.play(0, 0);
        Checks.dueExactly("29 nothing shared yet", third.playersShare(), 0.0);
        Towns.nextTimes(third, 10);
        Checks.dueExactly("29 two thirds", third.playersShare(), 2.0 / 3.0);
        OrganCorners all = Towns.single(90, 1);
        all.set(2, 0);
        all.play(0, 0);
        Towns.nextTimes(all, 10);
        Checks.dueExactly("29 all", all.playersShare(), 1.0);
        Bounds.asks("29 playersShare", town -> town.playersShare());
    }

    /** "The hash starts at 2297. For each value v of the following list, in order, the hash becomes
     * 31 * hash + v, in long arithmetic with overflow.", "the bits of playersShare (as
     * Double.doubleToLongBits); the length of the buffer and each of its character codes" */
    private static void digest() {
        Bounds.asks("30 digest", town -> town.digest());
        for (int length = 0; length <= 60; length++) {
            StringBuilder text = new StringBuilder();
            for (int sign = 0; sign < length; sign++) {
                text.append((char) ('~' - sign));
            }
            dueDigest(Towns.withSigns(length), Towns.withSigns(length), text.toString());
        }
        dueDigest(Towns.fresh(), Towns.fresh(), "");
        dueDigest(Towns.busy(), Towns.busy(), "next;1:");
        dueDigest(Towns.full(), Towns.full(),
                "next;0:a;1:b;2:c;3:d;4:e;next;0:f;1:g;2:h;3:i;4:j;next;lots;");
        dueDigest(Towns.fullNextDay(), Towns.fullNextDay(),
                "next;0:a;1:b;2:c;3:d;4:e;next;0:f;1:g;2:h;3:i;4:j;next;lots;");
        for (int fund = 0; fund <= 45; fund++) {
            dueDigest(Towns.afterWetDay(fund), Towns.afterWetDay(fund), "");
        }
    }

    private static void dueDigest(OrganCorners town, OrganCorners twin, String text) {
        Checks.due("30 by its list", town.digest(), listed(twin, text));
    }

    /** The hash of the document's list, from the answers of a town with this text. */
    private static long listed(OrganCorners town, String text) {
        long[] hash = {2297};
        int corners = town.count(0);
        int organs = town.count(1);
        int players = town.count(2);
        for (int what = 0; what <= 15; what++) {
            mix(hash, town.count(what));
        }
        for (int which = 0; which <= 4; which++) {
            mix(hash, town.setting(which));
        }
        for (int corner = 0; corner < corners; corner++) {
            for (int what = 0; what <= 5; what++) {
                mix(hash, town.corner(corner, what));
            }
        }
        for (int organ = 0; organ < organs; organ++) {
            for (int what = 0; what <= 8; what++) {
                mix(hash, town.organ(organ, what));
            }
            for (int tune = 0; tune <= 9; tune++) {
                mix(hash, town.whyNot(organ, tune));
            }
            mix(hash, town.ifPlayed(organ));
            mix(hash, town.kindestTune(organ));
        }
        for (int player = 0; player < players; player++) {
            for (int what = 0; what <= 4; what++) {
                mix(hash, town.player(player, what));
            }
            for (int organ = 0; organ < organs; organ++) {
                mix(hash, town.hours(player, organ));
            }
            mix(hash, town.ifEnded(player));
        }
        mix(hash, town.most(0));
        mix(hash, town.most(1));
        mix(hash, Double.doubleToLongBits(town.playersShare()));
        mix(hash, text.length());
        for (int sign = 0; sign < text.length(); sign++) {
            mix(hash, text.charAt(sign));
        }
        return hash[0];
    }

    private static void mix(long[] hash, long value) {
        hash[0] = 31 * hash[0] + value;
    }
}
