/** Towns that tests begin with, and short ways to go on with them. */
final class Towns {
    static final int NONE = OrganCorners.NONE;

    private Towns() {
    }

    static OrganCorners fresh() {
        return new OrganCorners();
    }

    /** Corners of crowd 50 without quiet hours, at these places. */
    static OrganCorners withCorners(int... places) {
        OrganCorners town = new OrganCorners();
        for (int place : places) {
            town.addCorner(place, 50, 0, 0);
        }
        return town;
    }

    /** As many organs as told, with a permit, all tunes, owner's percent 0 and one player each. */
    static void addOrgans(OrganCorners town, int organs) {
        for (int organ = 0; organ < organs; organ++) {
            town.addOrgan(0);
            town.permit(organ, true);
            town.barrel(organ, 1023);
            town.addPlayer();
            town.assign(organ, organ);
        }
    }

    /** Two corners at a distance of 20, organ 0 at corner 0 (draw(2) is 16838 % 2), 1 at 1. */
    static OrganCorners pair() {
        OrganCorners town = withCorners(10, 30);
        addOrgans(town, 2);
        town.lots();
        return town;
    }

    /** At each of these places a corner of this crowd, and an organ at it. */
    static OrganCorners taken(int crowd, int... places) {
        OrganCorners town = new OrganCorners();
        for (int place : places) {
            town.addCorner(place, crowd, 0, 0);
        }
        addOrgans(town, places.length);
        town.lots();
        return town;
    }

    /** One corner and one organ at it, with as many players as told in its crew. */
    static OrganCorners single(int crowd, int players) {
        OrganCorners town = new OrganCorners();
        town.addCorner(40, crowd, 0, 0);
        town.addOrgan(0);
        town.permit(0, true);
        town.barrel(0, 1023);
        for (int player = 0; player < players; player++) {
            town.addPlayer();
            town.assign(player, 0);
        }
        town.lots();
        return town;
    }

    /** Players without hours, and a wet day with just this much, 0 to 45, in the fund. */
    static OrganCorners withFund(int fund, int players) {
        OrganCorners town = single(fund == 0 ? 1 : 2 * fund, players);
        town.set(2, 50);
        town.set(3, 100);
        if (fund > 0) {
            town.play(0, 0);
        }
        nextTimes(town, 10);
        town.weather(true);
        return town;
    }

    /** As much of all as there may be, with a text of 60 characters and 6 saved states. */
    static OrganCorners full() {
        OrganCorners town = new OrganCorners();
        for (int corner = 0; corner < 10; corner++) {
            town.addCorner(corner * 11, 81 + corner, corner, corner % 3);
        }
        addOrgans(town, 5);
        for (int player = 5; player < 8; player++) {
            town.addPlayer();
            town.assign(player, player - 5);
        }
        type(town, "next;0:a;1:b;2:c;3:d;4:e;next;0:f;1:g;2:h;3:i;4:j;next;lots;");
        town.lots();
        return town;
    }

    /** The second day of a town with two organs, wet, in hour 4, with pots, a fund and a text. */
    static OrganCorners busy() {
        OrganCorners town = withCorners(10, 30, 80);
        addOrgans(town, 2);
        town.addPlayer();
        town.lots();
        town.play(0, 0);
        nextTimes(town, 10);
        town.lots();
        town.weather(true);
        town.play(0, 1);
        town.next();
        town.play(1, 2);
        town.assign(2, 1);
        nextTimes(town, 2);
        town.play(0, 3);
        town.next();
        town.play(1, 4);
        type(town, "next;1:");
        return town;
    }

    static OrganCorners pairInHour(int hour) {
        OrganCorners town = pair();
        nextTimes(town, hour);
        return town;
    }

    static OrganCorners pairThatPlayed(int hour) {
        OrganCorners town = pairInHour(hour);
        town.play(0, 0);
        return town;
    }

    static OrganCorners fullNextDay() {
        OrganCorners town = full();
        town.play(0, 0);
        nextTimes(town, 10);
        return town;
    }

    /** Two organs; the reason, or 0 for none, is against organ 0 and tune 0. */
    static OrganCorners pairWithReason(int reason) {
        OrganCorners town = new OrganCorners();
        town.addCorner(10, 50, 1, 1);
        town.addCorner(30, 50, 1, 1);
        addOrgans(town, 2);
        if (reason != 1) {
            town.lots();
        }
        if (reason == 2) {
            town.assign(0, NONE);
        } else if (reason == 3) {
            town.barrel(0, 1022);
        } else if (reason == 4) {
            town.play(0, 1);
        } else if (reason == 5) {
            town.next();
        } else if (reason == 6) {
            town.play(1, 0);
        }
        return town;
    }

    /** An organ at a corner of crowd 1 on a wet day: half of 1, rounded down, is 0. */
    static OrganCorners wetCorner() {
        OrganCorners town = single(1, 1);
        town.weather(true);
        return town;
    }

    static OrganCorners halfIsOwners() {
        OrganCorners town = withCorners(10);
        town.addOrgan(50);
        town.permit(0, true);
        town.barrel(0, 1023);
        town.addPlayer();
        town.assign(0, 0);
        town.lots();
        return town;
    }

    static OrganCorners busyInHour9() {
        OrganCorners town = busy();
        nextTimes(town, 5);
        return town;
    }

    static OrganCorners withSigns(int length) {
        OrganCorners town = pair();
        for (int sign = 0; sign < length; sign++) {
            town.append('~' - sign);
        }
        return town;
    }

    /** A text of 60 characters of which the last one alone is a syntax error. */
    static OrganCorners lastOfSixty() {
        OrganCorners town = pair();
        type(town, "next;next;next;next;next;next;next;next;next;next;next;nextx");
        return town;
    }

    static OrganCorners pairWithText(String text) {
        OrganCorners town = pair();
        type(town, text);
        return town;
    }

    static OrganCorners withoutStates() {
        OrganCorners town = busy();
        while (town.count(15) > 0) {
            town.undo();
        }
        return town;
    }

    /** Towns whose players had different shares of the takings, 0 and 1 among them. */
    static OrganCorners afterWetDay(int fund) {
        OrganCorners town = withFund(fund, 1);
        town.set(4, fund == 45 ? 50 : fund % 7);
        nextTimes(town, 10);
        return town;
    }

    static void type(OrganCorners town, String text) {
        for (int i = 0; i < text.length(); i++) {
            town.append(text.charAt(i));
        }
    }

    static int run(OrganCorners town, String text) {
        town.clearBuffer();
        type(town, text);
        return town.run();
    }

    static void nextTimes(OrganCorners town, int times) {
        for (int i = 0; i < times; i++) {
            town.next();
        }
    }
}
