import java.util.ArrayList;
import java.util.List;

/**
 * The document, written a second time and in another way: it keeps the list of what was played
 * and reckons all else from it, tries out what would be on copies, and lets undo keep copies.
 */
final class ReferenceTown {
    static final int NONE = -1;

    private record Corner(int place, int crowd, int first, int quiet) {
    }

    private record Played(int day, int hour, int corner, int organ, int tune, int takings,
            int owner, List<Integer> crew) {
    }

    private static final class Organ {
        int percent;
        boolean permit;
        int barrel;
        int corner = NONE;
        int pot;

        Organ copy() {
            Organ organ = new Organ();
            organ.percent = percent;
            organ.permit = permit;
            organ.barrel = barrel;
            organ.corner = corner;
            organ.pot = pot;
            return organ;
        }
    }

    private record Gift(int player, int fromPots, int fromFund) {
    }

    private static final class State {
        final List<Corner> corners = new ArrayList<>();
        final List<Organ> organs = new ArrayList<>();
        final List<Integer> crews = new ArrayList<>();
        final List<Played> history = new ArrayList<>();
        final List<Gift> gifts = new ArrayList<>();
        int[] settings = {20, 2, 20, 25, 5};
        int day;
        int hour;
        boolean wet;
        long seed = 1;
        int town;
        int fund;

        State copy() {
            State state = new State();
            state.corners.addAll(corners);
            for (Organ organ : organs) {
                state.organs.add(organ.copy());
            }
            state.crews.addAll(crews);
            state.history.addAll(history);
            state.gifts.addAll(gifts);
            state.settings = settings.clone();
            state.day = day;
            state.hour = hour;
            state.wet = wet;
            state.seed = seed;
            state.town = town;
            state.fund = fund;
            return state;
        }
    }

    private State now = new State();
    private List<State> saved = new ArrayList<>();
    private StringBuilder buffer = new StringBuilder();

    private static void argument(boolean right) {
        if (!right) {
            throw new IllegalArgumentException();
        }
    }

    private static void state(boolean right) {
        if (!right) {
            throw new IllegalStateException();
        }
    }

    private static void index(boolean right) {
        if (!right) {
            throw new IndexOutOfBoundsException();
        }
    }

    private void organIndex(int organ) {
        index(organ >= 0 && organ < now.organs.size());
    }

    private void playerIndex(int player) {
        index(player >= 0 && player < now.crews.size());
    }

    private void save() {
        saved.add(now.copy());
        if (saved.size() > 6) {
            saved.remove(0);
        }
    }

    int addCorner(int place, int crowd, int first, int quiet) {
        argument(0 <= place && place <= 99 && 1 <= crowd && crowd <= 90);
        argument(0 <= first && first <= 9 && 0 <= quiet && quiet <= 9);
        state(now.corners.size() < 10);
        state(now.corners.stream().noneMatch(corner -> corner.place() == place));
        save();
        now.corners.add(new Corner(place, crowd, first, quiet));
        return now.corners.size() - 1;
    }

    int addOrgan(int percent) {
        argument(0 <= percent && percent <= 50);
        state(now.organs.size() < 5);
        save();
        Organ organ = new Organ();
        organ.percent = percent;
        now.organs.add(organ);
        return now.organs.size() - 1;
    }

    int addPlayer() {
        state(now.crews.size() < 8);
        save();
        now.crews.add(NONE);
        return now.crews.size() - 1;
    }

    int permit(int organ, boolean permit) {
        organIndex(organ);
        save();
        now.organs.get(organ).permit = permit;
        return (int) now.organs.stream().filter(o -> o.permit).count();
    }

    int barrel(int organ, int tunes) {
        organIndex(organ);
        argument(0 <= tunes && tunes <= 1023);
        save();
        int before = now.organs.get(organ).barrel;
        now.organs.get(organ).barrel = tunes;
        return before;
    }

    int assign(int player, int organ) {
        playerIndex(player);
        index(organ == NONE || organ >= 0 && organ < now.organs.size());
        save();
        return now.crews.set(player, organ);
    }

    int set(int setting, int value) {
        index(0 <= setting && setting <= 4);
        int greatest = setting == 0 ? 99 : setting == 1 ? 9 : setting == 3 ? 100 : 50;
        argument(0 <= value && value <= greatest);
        save();
        int before = now.settings[setting];
        now.settings[setting] = value;
        return before;
    }

    private boolean quietDay() {
        return count(7) == 0;
    }

    int lots() {
        state(now.hour == 0 && quietDay());
        save();
        List<Integer> free = new ArrayList<>();
        for (int corner = 0; corner < now.corners.size(); corner++) {
            free.add(corner);
        }
        int lucky = 0;
        for (Organ organ : now.organs) {
            organ.corner = NONE;
            if (organ.permit && !free.isEmpty()) {
                now.seed = (1103515245L * now.seed + 12345L) % 2147483648L;
                organ.corner = free.remove((int) (now.seed / 65536 % free.size()));
                lucky++;
            }
        }
        return lucky;
    }

    int weather(boolean wet) {
        state(quietDay());
        save();
        int before = now.wet ? 1 : 0;
        now.wet = wet;
        return before;
    }

    private int distance(int corner, int other) {
        return Math.abs(now.corners.get(corner).place() - now.corners.get(other).place());
    }

    private boolean heard(int corner, int tune) {
        for (Played played : now.history) {
            int ago = now.hour - played.hour();
            if (played.day() == now.day && ago <= now.settings[1] && played.tune() == tune
                    && distance(corner, played.corner()) <= now.settings[0]) {
                return true;
            }
        }
        return false;
    }

    private boolean quiet(int corner) {
        Corner there = now.corners.get(corner);
        for (int i = 0; i < there.quiet(); i++) {
            if ((there.first() + i) % 10 == now.hour) {
                return true;
            }
        }
        return false;
    }

    private boolean inHour(Played played) {
        return played.day() == now.day && played.hour() == now.hour;
    }

    int whyNot(int organ, int tune) {
        organIndex(organ);
        argument(0 <= tune && tune <= 9);
        Organ it = now.organs.get(organ);
        if (it.corner == NONE) {
            return 1;
        }
        if (!now.crews.contains(organ)) {
            return 2;
        }
        if ((it.barrel & 1 << tune) == 0) {
            return 3;
        }
        if (organ(organ, 8) != NONE) {
            return 4;
        }
        if (quiet(it.corner)) {
            return 5;
        }
        return heard(it.corner, tune) ? 6 : 0;
    }

    private int takings(int organ) {
        int corner = now.organs.get(organ).corner;
        int others = 0;
        for (Played played : now.history) {
            if (inHour(played) && distance(corner, played.corner()) <= now.settings[0]) {
                others++;
            }
        }
        int takings = Math.max(0, now.corners.get(corner).crowd() * (10 - 2 * others) / 10);
        return now.wet ? takings / 2 : takings;
    }

    int play(int organ, int tune) {
        organIndex(organ);
        argument(0 <= tune && tune <= 9);
        state(whyNot(organ, tune) == 0);
        save();
        return sound(organ, tune);
    }

    private int sound(int organ, int tune) {
        Organ it = now.organs.get(organ);
        int takings = takings(organ);
        int part = takings * now.settings[2] / 100;
        now.fund += part * now.settings[3] / 100;
        now.town += part - part * now.settings[3] / 100;
        int left = takings - part;
        int owner = left * it.percent / 100;
        it.pot += left - owner;
        List<Integer> crew = new ArrayList<>();
        for (int player = 0; player < now.crews.size(); player++) {
            if (now.crews.get(player) == organ) {
                crew.add(player);
            }
        }
        now.history.add(new Played(now.day, now.hour, it.corner, organ, tune, takings, owner, crew));
        return takings;
    }

    int next() {
        save();
        now.hour++;
        if (now.hour == 10) {
            for (int player = 0; player < now.crews.size(); player++) {
                now.gifts.add(new Gift(player, fromPots(player), fromFund(player)));
            }
            for (Gift gift : now.gifts.subList(now.gifts.size() - now.crews.size(),
                    now.gifts.size())) {
                now.fund -= gift.fromFund();
            }
            for (Organ organ : now.organs) {
                organ.pot = 0;
                organ.corner = NONE;
            }
            now.day++;
            now.hour = 0;
            now.wet = false;
        }
        return now.hour;
    }

    private int fromPots(int player) {
        int sum = 0;
        for (int organ = 0; organ < now.organs.size(); organ++) {
            int pot = now.organs.get(organ).pot;
            if (pot > 0) {
                sum += shares(organ, pot)[player];
            }
        }
        return sum;
    }

    private int[] shares(int organ, int pot) {
        int all = 0;
        for (int player = 0; player < now.crews.size(); player++) {
            all += hours(player, organ);
        }
        int[] shares = new int[now.crews.size()];
        List<int[]> order = new ArrayList<>();
        int left = pot;
        for (int player = 0; player < shares.length; player++) {
            shares[player] = pot * hours(player, organ) / all;
            left -= shares[player];
            order.add(new int[] {player, pot * hours(player, organ) % all});
        }
        order.sort((a, b) -> a[1] != b[1] ? b[1] - a[1] : a[0] - b[0]);
        for (int i = 0; i < left; i++) {
            shares[order.get(i)[0]]++;
        }
        return shares;
    }

    private int fromFund(int player) {
        int fund = now.fund;
        int gift = 0;
        for (int other = 0; other <= player; other++) {
            gift = now.wet && player(other, 1) < 3 ? Math.min(fund, now.settings[4]) : 0;
            fund -= gift;
        }
        return gift;
    }

    int append(int code) {
        argument(33 <= code && code <= 126);
        state(buffer.length() < 60);
        buffer.append((char) code);
        return buffer.length();
    }

    int clearBuffer() {
        int length = buffer.length();
        buffer.setLength(0);
        return length;
    }

    private static final String ORDER = "(lots|wet|dry|next|[0-4]:[a-j])";
    private static final String[] STARTS = {"", "l", "lo", "lot", "w", "we", "d", "dr", "n", "ne",
        "nex", "[0-4]", "[0-4]:"};

    private static boolean isStart(String text) {
        if (text.isEmpty() || text.matches(ORDER + "(;" + ORDER + ")*")) {
            return true;
        }
        for (String start : STARTS) {
            if (text.matches("(" + ORDER + ";)*" + start)) {
                return true;
            }
        }
        return false;
    }

    int firstError() {
        for (int i = 0; i < buffer.length(); i++) {
            if (!isStart(buffer.substring(0, i + 1))) {
                return i;
            }
        }
        return buffer.length();
    }

    int run() {
        argument(buffer.toString().matches(ORDER + "(;" + ORDER + ")*"));
        List<State> savedBefore = new ArrayList<>(saved);
        State before = now.copy();
        int done = 0;
        try {
            for (String order : buffer.toString().split(";")) {
                switch (order) {
                    case "lots" -> lots();
                    case "wet" -> weather(true);
                    case "dry" -> weather(false);
                    case "next" -> next();
                    default -> play(order.charAt(0) - '0', order.charAt(2) - 'a');
                }
                done++;
            }
        } catch (RuntimeException stopped) {
            // what is done stays done
        }
        saved = savedBefore;
        State after = now;
        now = before;
        save();
        now = after;
        buffer.setLength(0);
        return done;
    }

    int undo() {
        state(!saved.isEmpty());
        now = saved.remove(saved.size() - 1);
        return saved.size();
    }

    int corner(int corner, int what) {
        index(corner >= 0 && corner < now.corners.size());
        argument(0 <= what && what <= 5);
        int mask = 0;
        switch (what) {
            case 0:
                return now.corners.get(corner).place();
            case 1:
                return now.corners.get(corner).crowd();
            case 2:
                return quiet(corner) ? 1 : 0;
            case 3:
                for (int organ = 0; organ < now.organs.size(); organ++) {
                    if (now.organs.get(organ).corner == corner) {
                        return organ;
                    }
                }
                return NONE;
            case 4:
                for (Played played : now.history) {
                    mask |= played.day() == now.day && played.corner() == corner
                            ? 1 << played.tune() : 0;
                }
                return mask;
            default:
                for (int tune = 0; tune < 10; tune++) {
                    mask |= heard(corner, tune) ? 1 << tune : 0;
                }
                return mask;
        }
    }

    int organ(int organ, int what) {
        organIndex(organ);
        argument(0 <= what && what <= 8);
        Organ it = now.organs.get(organ);
        List<Played> its = now.history.stream().filter(p -> p.organ() == organ).toList();
        switch (what) {
            case 0:
                return it.percent;
            case 1:
                return it.permit ? 1 : 0;
            case 2:
                return it.barrel;
            case 3:
                return it.corner;
            case 4:
                return (int) now.crews.stream().filter(crew -> crew == organ).count();
            case 5:
                return it.pot;
            case 6:
                return its.stream().mapToInt(Played::owner).sum();
            case 7:
                return its.stream().mapToInt(Played::takings).sum();
            default:
                return its.stream().filter(this::inHour).mapToInt(Played::tune).findAny()
                        .orElse(NONE);
        }
    }

    int player(int player, int what) {
        playerIndex(player);
        argument(0 <= what && what <= 4);
        List<Played> its = now.history.stream().filter(p -> p.crew().contains(player)).toList();
        List<Gift> gifts = now.gifts.stream().filter(g -> g.player() == player).toList();
        switch (what) {
            case 0:
                return now.crews.get(player);
            case 1:
                return (int) its.stream().filter(p -> p.day() == now.day).count();
            case 2:
                return gifts.stream().mapToInt(g -> g.fromPots() + g.fromFund()).sum();
            case 3:
                return gifts.stream().mapToInt(Gift::fromFund).sum();
            default:
                return its.size();
        }
    }

    int hours(int player, int organ) {
        playerIndex(player);
        organIndex(organ);
        return (int) now.history.stream().filter(p -> p.day() == now.day && p.organ() == organ
                && p.crew().contains(player)).count();
    }

    int count(int what) {
        argument(0 <= what && what <= 15);
        switch (what) {
            case 0:
                return now.corners.size();
            case 1:
                return now.organs.size();
            case 2:
                return now.crews.size();
            case 3:
                return now.day;
            case 4:
                return now.hour;
            case 5:
                return now.wet ? 1 : 0;
            case 6:
                return (int) now.seed;
            case 7:
                return (int) now.history.stream().filter(p -> p.day() == now.day).count();
            case 8:
                return now.history.size();
            case 9:
                return now.history.stream().mapToInt(Played::takings).sum();
            case 10:
                return now.town;
            case 11:
                return now.fund;
            case 12:
                return now.history.stream().mapToInt(Played::owner).sum();
            case 13:
                return now.organs.stream().mapToInt(o -> o.pot).sum();
            case 14:
                return now.gifts.stream().mapToInt(g -> g.fromPots() + g.fromFund()).sum();
            default:
                return saved.size();
        }
    }

    int setting(int setting) {
        index(0 <= setting && setting <= 4);
        return now.settings[setting];
    }

    int ifPlayed(int organ) {
        organIndex(organ);
        for (int tune = 0; tune < 10; tune++) {
            if (whyNot(organ, tune) == 0) {
                State before = now;
                now = before.copy();
                int takings = sound(organ, tune);
                now = before;
                return takings;
            }
        }
        return NONE;
    }

    int kindestTune(int organ) {
        organIndex(organ);
        int kindest = NONE;
        int most = -1;
        for (int tune = 0; tune < 10; tune++) {
            if (whyNot(organ, tune) == 0) {
                State before = now;
                now = before.copy();
                sound(organ, tune);
                int pairs = 0;
                for (int other = 0; other < now.organs.size(); other++) {
                    for (int its = 0; other != organ && its < 10; its++) {
                        pairs += whyNot(other, its) == 0 ? 1 : 0;
                    }
                }
                now = before;
                if (pairs > most) {
                    most = pairs;
                    kindest = tune;
                }
            }
        }
        return kindest;
    }

    private int[] best;

    int most(int what) {
        argument(what == 0 || what == 1);
        best = new int[] {0, 0};
        tryFrom(0, 0, 0);
        return best[what];
    }

    private void tryFrom(int organ, int mask, int takings) {
        if (takings > best[0] || takings == best[0] && mask < best[1]) {
            best = new int[] {takings, mask};
        }
        for (int other = organ; other < now.organs.size(); other++) {
            for (int tune = 0; tune < 10; tune++) {
                if (whyNot(other, tune) == 0) {
                    State before = now;
                    now = before.copy();
                    int more = sound(other, tune);
                    tryFrom(other + 1, mask | 1 << other, takings + more);
                    now = before;
                }
            }
        }
    }

    int ifEnded(int player) {
        playerIndex(player);
        return fromPots(player) + fromFund(player);
    }

    double playersShare() {
        return count(9) == 0 ? 0.0 : (double) count(14) / count(9);
    }

    long digest() {
        List<Long> values = new ArrayList<>();
        for (int what = 0; what <= 15; what++) {
            values.add((long) count(what));
        }
        for (int which = 0; which < 5; which++) {
            values.add((long) setting(which));
        }
        for (int corner = 0; corner < now.corners.size(); corner++) {
            for (int what = 0; what <= 5; what++) {
                values.add((long) corner(corner, what));
            }
        }
        for (int organ = 0; organ < now.organs.size(); organ++) {
            for (int what = 0; what <= 8; what++) {
                values.add((long) organ(organ, what));
            }
            for (int tune = 0; tune < 10; tune++) {
                values.add((long) whyNot(organ, tune));
            }
            values.add((long) ifPlayed(organ));
            values.add((long) kindestTune(organ));
        }
        for (int player = 0; player < now.crews.size(); player++) {
            for (int what = 0; what <= 4; what++) {
                values.add((long) player(player, what));
            }
            for (int organ = 0; organ < now.organs.size(); organ++) {
                values.add((long) hours(player, organ));
            }
            values.add((long) ifEnded(player));
        }
        values.add((long) most(0));
        values.add((long) most(1));
        values.add(Double.doubleToLongBits(playersShare()));
        values.add((long) buffer.length());
        buffer.chars().forEach(code -> values.add((long) code));
        long hash = 2297;
        for (long value : values) {
            hash = 31 * hash + value;
        }
        return hash;
    }
}
