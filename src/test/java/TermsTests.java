import java.util.ArrayList;
import java.util.List;

/**
 * The boundary cases that the document names above its promises, sentence by sentence, but for
 * those of "Days and hours", which are DaysTests.
 */
public final class TermsTests {
    private static final Class<IllegalArgumentException> ARGUMENT = IllegalArgumentException.class;
    private static final Class<IllegalStateException> STATE = IllegalStateException.class;
    private static final Class<IndexOutOfBoundsException> INDEX = IndexOutOfBoundsException.class;
    private static final int NONE = OrganCorners.NONE;
    /** The first seeds behind 1, from the document's formula. */
    private static final int[] SEEDS = {1103527590, 377401575, 662824084, 1147902781, 2035015474,
        368800899, 1508029952, 486256185, 1062517886, 267834847};

    private TermsTests() {
    }

    public static void main(String[] args) {
        callsOfAnObject();
        corners();
        quietHours();
        organsAndPlayers();
        lots();
        draws();
        settings();
        rowsOfOrders();
        signsOfOrders();
        savedStates();
        firstNamedException();
        Checks.end("TermsTests");
    }

    /** "An object is used for at most 512 calls after it has been made" */
    private static void callsOfAnObject() {
        OrganCorners town = new OrganCorners();
        Towns.nextTimes(town, 511);
        Checks.due("the 512th call", town.count(3), 51);
        // 7 calls and 42 days of 12 calls each
        OrganCorners busy = Towns.single(90, 1);
        for (int day = 0; day < 42; day++) {
            busy.play(0, 0);
            Towns.nextTimes(busy, 10);
            busy.lots();
        }
        Checks.due("the 512th call, takings", busy.count(9), 42 * 90);
    }

    /** "There are at most 10 corners, numbered from 0 in the order in which they came." */
    private static void corners() {
        OrganCorners town = new OrganCorners();
        for (int corner = 0; corner < 10; corner++) {
            Checks.due("number of a corner", town.addCorner(99 - corner, 1 + corner, 0, 0), corner);
        }
        for (int corner = 0; corner < 10; corner++) {
            Checks.due("in the order in which they came", town.corner(corner, 0), 99 - corner);
            Checks.due("crowd in this order", town.corner(corner, 1), 1 + corner);
        }
        Checks.due("10 corners", town.count(0), 10);
        Twins.refused("an 11th corner", Towns::full, STATE, full -> full.addCorner(1, 1, 0, 0));
    }

    /**
     * "they are the first one and those behind it, as many in all as told (0: there are none;
     * behind 9 comes 0)"
     */
    private static void quietHours() {
        for (int first = 0; first < 10; first++) {
            OrganCorners town = new OrganCorners();
            for (int quiet = 0; quiet < 10; quiet++) {
                town.addCorner(quiet, 50, first, quiet);
            }
            for (int hour = 0; hour < 10; hour++) {
                for (int quiet = 0; quiet < 10; quiet++) {
                    int behindFirst = hour >= first ? hour - first : hour + 10 - first;
                    Checks.due("from " + first + " " + quiet + " quiet hours: hour " + hour,
                            town.corner(quiet, 2), behindFirst < quiet ? 1 : 0);
                }
                town.next();
            }
            Checks.due("none of 0, on the next day too", town.corner(0, 2), 0);
        }
    }

    /** "There are at most 5 organs and at most 8 players, both numbered from 0." and "at first" */
    private static void organsAndPlayers() {
        OrganCorners town = new OrganCorners();
        for (int organ = 0; organ < 5; organ++) {
            Checks.due("number of an organ", town.addOrgan(organ), organ);
            Checks.due("at first no permit", town.organ(organ, 1), 0);
            Checks.due("at first no tunes", town.organ(organ, 2), 0);
            Checks.due("at first no corner", town.organ(organ, 3), NONE);
            Checks.due("at first no crew", town.organ(organ, 4), 0);
        }
        for (int player = 0; player < 8; player++) {
            Checks.due("number of a player", town.addPlayer(), player);
            Checks.due("at first in no crew", town.player(player, 0), NONE);
        }
        Twins.refused("a 6th organ", Towns::full, STATE, full -> full.addOrgan(0));
        Twins.refused("a 9th player", Towns::full, STATE, full -> full.addPlayer());
        town.assign(7, 0);
        town.assign(7, 4);
        Checks.due("in the crew of one organ, not of the former", town.organ(0, 4), 0);
        Checks.due("in the crew of one organ", town.organ(4, 4), 1);
    }

    /**
     * "no organ has a corner any more; then each organ with a permit, by number, gets one of the
     * corners that no organ has ... (none, and nothing is drawn, if m is 0)"
     */
    private static void lots() {
        OrganCorners empty = new OrganCorners();
        Towns.addOrgans(empty, 1);
        Checks.due("no corners: none gets one", empty.lots(), 0);
        Checks.due("no corners: it gets none", empty.organ(0, 3), NONE);
        Checks.due("no corners: nothing is drawn", empty.count(6), 1);
        OrganCorners one = Towns.withCorners(5);
        Checks.due("no organs: none gets a corner", one.lots(), 0);
        Checks.due("no organs: nothing is drawn", one.count(6), 1);
        Towns.addOrgans(one, 2);
        Checks.due("1 corner: one organ gets it", one.lots(), 1);
        Checks.due("1 corner: the first organ gets it", one.organ(0, 3), 0);
        Checks.due("1 corner: the second gets none", one.organ(1, 3), NONE);
        Checks.due("m is 1: a draw; m is 0: no draw", one.count(6), SEEDS[0]);
        one.permit(0, false);
        Checks.due("without a permit it keeps its corner on this day", one.organ(0, 3), 0);
        Checks.due("lots again", one.lots(), 1);
        Checks.due("it has no corner any more", one.organ(0, 3), NONE);
        Checks.due("the corner is the next organ's", one.organ(1, 3), 0);
        Checks.due("nothing is drawn without a permit", one.count(6), SEEDS[1]);
        OrganCorners none = Towns.pair();
        none.permit(0, false);
        none.permit(1, false);
        int seed = none.count(6);
        Checks.due("no permits: no corners", none.lots(), 0);
        Checks.due("no permits: nothing is drawn", none.count(6), seed);
        OrganCorners equal = Towns.withCorners(5, 6);
        Towns.addOrgans(equal, 2);
        Checks.due("as many corners as organs", equal.lots(), 2);
        OrganCorners more = Towns.withCorners(5, 6);
        Towns.addOrgans(more, 3);
        Checks.due("one organ more than corners", more.lots(), 2);
        Checks.due("the last one has none", more.organ(2, 3), NONE);
    }

    /**
     * "makes the seed, a number from 0 to 2147483647, at first 1, to the remainder of
     * (1103515245 * seed + 12345) by 2147483648, and is seed / 65536 modulo m then"
     */
    private static void draws() {
        OrganCorners single = Towns.withCorners(5);
        Towns.addOrgans(single, 1);
        Checks.due("at first 1", single.count(6), 1);
        for (int seed : SEEDS) {
            single.lots();
            Checks.due("seed", single.count(6), seed);
        }
        for (int corners = 1; corners <= 10; corners++) {
            for (int organs = 1; organs <= 5; organs++) {
                drawsOf(corners, organs);
            }
        }
    }

    private static void drawsOf(int corners, int organs) {
        OrganCorners town = new OrganCorners();
        for (int corner = 0; corner < corners; corner++) {
            town.addCorner(99 - corner * corner, 50, 0, 0);
        }
        Towns.addOrgans(town, organs);
        long seed = 1;
        for (int day = 0; day < 20; day++) {
            town.lots();
            List<Integer> free = new ArrayList<>();
            for (int corner = 0; corner < corners; corner++) {
                free.add(corner);
            }
            for (int organ = 0; organ < organs; organ++) {
                int due = NONE;
                if (!free.isEmpty()) {
                    seed = (1103515245L * seed + 12345L) % 2147483648L;
                    due = free.remove((int) (seed / 65536 % free.size()));
                }
                Checks.due("one of " + corners + " for organ " + organ, town.organ(organ, 3), due);
            }
            Checks.due("seed of " + corners + " corners", town.count(6), seed);
        }
    }

    /** "0: the distance, 0 to 99, at first 20; 1: the memory, 0 to 9, at first 2; 2: the percent of
     * the town, 0 to 50, at first 20; 3: the percent of the fund, 0 to 100, at first 25; 4: the
     * allowance, 0 to 50, at first 5." */
    private static void settings() {
        int[][] due = {{99, 20}, {9, 2}, {50, 20}, {100, 25}, {50, 5}};
        for (int which = 0; which < 5; which++) {
            int setting = which;
            int greatest = due[which][0];
            String what = "setting " + which;
            OrganCorners town = new OrganCorners();
            Checks.due(what + " at first", town.set(which, 0), due[which][1]);
            Checks.due(what + " at least", town.set(which, greatest), 0);
            Checks.due(what + " at most", town.setting(which), greatest);
            for (int other = 0; other < 5; other++) {
                Checks.due(what + " alone", town.setting(other),
                        other == which ? greatest : due[other][1]);
            }
            for (int wrong : new int[] {-1, greatest + 1, Integer.MIN_VALUE, Integer.MAX_VALUE}) {
                Twins.refused(what + " to " + wrong, Towns::busy, ARGUMENT,
                        busy -> busy.set(setting, wrong));
            }
        }
    }

    private static void dueError(String text, int due) {
        OrganCorners town = new OrganCorners();
        Towns.type(town, text);
        Checks.due("first error of \"" + text + "\"", town.firstError(), due);
    }

    private static boolean runs(String text) {
        OrganCorners town = new OrganCorners();
        Towns.type(town, text);
        try {
            town.run();
        } catch (IllegalArgumentException incomplete) {
            return false;
        }
        return true;
    }

    /** "A row of orders is one or more orders with ";" between them.", "of any length", "(It is no
     * syntax error if there is no such organ.)" */
    private static void rowsOfOrders() {
        String[] orders = {"lots", "wet", "dry", "next", "0:a", "4:j"};
        dueError("", 0);
        Checks.due("no order is no row", runs("") ? 1 : 0, 0);
        for (String order : orders) {
            dueError(order, order.length());
            Checks.due("one order: " + order, runs(order) ? 1 : 0, 1);
            dueError(";" + order, 0);
            dueError(order + ";", order.length() + 1);
            Checks.due("no order behind ;", runs(order + ";") ? 1 : 0, 0);
            dueError(order + ";;", order.length() + 1);
            for (String next : orders) {
                dueError(order + ";" + next, order.length() + 1 + next.length());
                Checks.due("two orders", runs(order + ";" + next) ? 1 : 0, 1);
                dueError(order + next, order.length());
                dueError(order + "," + next, order.length());
            }
            for (int length = 1; length < order.length(); length++) {
                String begun = order.substring(0, length);
                dueError(begun, length);
                dueError("wet;" + begun, 4 + length);
                Checks.due("begun: " + begun, runs(begun) ? 1 : 0, 0);
                Checks.due("begun: wet;" + begun, runs("wet;" + begun) ? 1 : 0, 0);
                dueError(begun + ";", length);
            }
        }
        String fifty = "lots;lots;lots;lots;lots;lots;lots;lots;lots;lots;";
        dueError(fifty + "lots;lots;", 60);
        dueError(fifty + "lots;wet;l", 60);
        dueError(fifty + "lots;wet;;", 59);
        dueError(fifty + "lots;lotss", 59);
        Checks.due("60 characters of a longer row", runs(fifty + "lots;wet;l") ? 1 : 0, 0);
        Checks.due("60 characters, ; the last", runs(fifty + "lots;lots;") ? 1 : 0, 0);
        String row = fifty.substring(5) + "0:a;1:b;wet;dry";
        dueError(row, 60);
        Checks.due("a row of 60 characters", row.length() == 60 && runs(row) ? 1 : 0, 1);
    }

    /** "An order is one of the words ... or the digit of an organ, 0 to 4, ":" and a letter, "a" to
     * "j"": behind each beginning each character */
    private static void signsOfOrders() {
        String[][] may = {{"", "lwdn01234"}, {"l", "o"}, {"lo", "t"}, {"lot", "s"}, {"lots", ";"},
            {"w", "e"}, {"we", "t"}, {"wet", ";"}, {"d", "r"}, {"dr", "y"}, {"dry", ";"},
            {"n", "e"}, {"ne", "x"}, {"nex", "t"}, {"next", ";"}, {"0", ":"}, {"1", ":"},
            {"2", ":"}, {"3", ":"}, {"4", ":"}, {"0:", "abcdefghij"}, {"4:", "abcdefghij"},
            {"0:a", ";"}, {"4:j", ";"}, {"lots;", "lwdn01234"}, {"2:c;", "lwdn01234"}};
        for (String[] one : may) {
            for (int code = 33; code <= 126; code++) {
                int length = one[0].length();
                dueError(one[0] + (char) code, one[1].indexOf(code) >= 0 ? length + 1 : length);
            }
        }
    }

    /**
     * "Each method that is marked "undoable" and does not throw an exception saves the state from
     * before it (also if it changes nothing): all but the buffer and the saved states. At most 6
     * states are saved; the oldest one is dropped first."
     */
    private static void savedStates() {
        OrganCorners town = new OrganCorners();
        for (int value = 1; value <= 8; value++) {
            town.set(0, 20 + value);
            Checks.due("saved states", town.count(15), Math.min(value, 6));
        }
        for (int left = 5; left >= 0; left--) {
            Checks.due("states left", town.undo(), left);
            Checks.due("the latest one first", town.setting(0), 22 + left);
        }
        Checks.dueThrow("the two oldest are dropped", STATE, () -> town.undo());
        OrganCorners same = Towns.pair();
        for (int i = 0; i < 6; i++) {
            same.set(0, 20);
        }
        long digest = same.digest();
        Checks.due("saved though nothing changes", same.undo(), 5);
        same.set(0, 20);
        Checks.due("the saved state is the same", same.digest(), digest);
        OrganCorners text = new OrganCorners();
        Towns.type(text, "wet");
        text.set(0, 1);
        Towns.type(text, ";d");
        text.undo();
        Checks.due("the buffer is not saved", text.clearBuffer(), 5);
        text.set(0, 1);
        text.clearBuffer();
        text.undo();
        Checks.due("a cleared buffer stays so", text.clearBuffer(), 0);
        OrganCorners refusals = new OrganCorners();
        refusals.addPlayer();
        Checks.dueThrow("refused", ARGUMENT, () -> refusals.addOrgan(51));
        Checks.dueThrow("refused too", INDEX, () -> refusals.permit(0, true));
        Checks.due("a refused call saves nothing", refusals.count(15), 1);
        Checks.due("undo goes back to the call ahead of it", refusals.undo(), 0);
        Checks.due("no player any more", refusals.count(2), 0);
    }

    /**
     * "If several exceptions apply, the one that is named first in the throws clause is thrown."
     */
    private static void firstNamedException() {
        Twins.refused("addCorner: range ahead of 10 corners", Towns::full, ARGUMENT,
                town -> town.addCorner(1, 0, 0, 0));
        Twins.refused("addCorner: range ahead of the same place", Towns::busy, ARGUMENT,
                town -> town.addCorner(10, 91, 0, 0));
        Twins.refused("addOrgan: range ahead of 5 organs", Towns::full, ARGUMENT,
                town -> town.addOrgan(-1));
        Twins.refused("barrel: organ ahead of range", Towns::busy, INDEX,
                town -> town.barrel(2, 1024));
        Twins.refused("set: setting ahead of range", Towns::busy, INDEX, town -> town.set(5, -1));
        Twins.refused("play: organ ahead of tune", Towns::busy, INDEX, town -> town.play(2, 10));
        Twins.refused("play: tune ahead of reason", Towns::busy, ARGUMENT,
                town -> town.play(1, 10));
        Twins.refused("append: range ahead of 60 characters", Towns::full, ARGUMENT,
                town -> town.append(32));
        Twins.refused("corner: corner ahead of what", Towns::busy, INDEX,
                town -> town.corner(3, 6));
        Twins.refused("organ: organ ahead of what", Towns::busy, INDEX, town -> town.organ(-1, -1));
        Twins.refused("player: player ahead of what", Towns::busy, INDEX,
                town -> town.player(3, 5));
        Twins.refused("whyNot: organ ahead of tune", Towns::busy, INDEX,
                town -> town.whyNot(2, 10));
    }
}
