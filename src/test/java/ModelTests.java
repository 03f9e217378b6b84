import java.util.function.LongSupplier;

/** Long runs of calls, the same each time, on the class and on ReferenceTown, answer by answer. */
public final class ModelTests {
    private static final int RUNS = 1500;
    private static final int CALLS = 512;
    private static final String[] ORDERS = {"lots", "wet", "dry", "next", "next", "0:a", "1:b",
        "2:c", "3:d", "4:j", "0:b", "1:a", "0:c", "1:d", "2:a"};
    private static final String[] LIKELY = {"next", "next", "next", "0:a", "1:b", "0:b", "1:a"};

    private final OrganCorners town = new OrganCorners();
    private final ReferenceTown reference = new ReferenceTown();
    private final int run;
    private long seed;
    private int call;
    /** The tunes that barrels mostly have, so that organs often want the same one. */
    private final int usualTunes;

    private ModelTests(int run) {
        this.run = run;
        this.seed = run * 7919L + 17;
        this.usualTunes = run % 4 == 0 ? 1023 : run % 4 == 1 ? 7 : run % 4 == 2 ? 15 : 99;
    }

    public static void main(String[] args) {
        for (int run = 0; run < RUNS; run++) {
            new ModelTests(run).go();
        }
        Checks.end("ModelTests");
    }

    private int below(int bound) {
        seed = (seed * 6364136223846793005L + 1442695040888963407L);
        return (int) ((seed >>> 33) % bound);
    }

    /** A number of a range; now and then one just outside of it, or far away. */
    private int about(int least, int greatest) {
        int dice = below(40);
        if (dice == 0) {
            return least - 1;
        }
        if (dice == 1) {
            return greatest + 1;
        }
        if (dice == 2 && below(4) == 0) {
            return below(2) == 0 ? Integer.MIN_VALUE : Integer.MAX_VALUE;
        }
        return dice < 8 ? (below(2) == 0 ? least : greatest)
                : least + below(Math.max(1, greatest - least + 1));
    }

    private static String outcome(LongSupplier call) {
        try {
            return Long.toString(call.getAsLong());
        } catch (RuntimeException thrown) {
            return "throws." + thrown.getClass().getSimpleName();
        }
    }

    /** Behind the last call of an object's use nothing is asked any more: its answer is free. */
    private void same(String what, LongSupplier ours, LongSupplier due) {
        if (call >= CALLS) {
            return;
        }
        call++;
        String got = outcome(ours);
        String want = outcome(due);
        String told = "run " + run + ", call " + call + ": " + what + " (" + got + " / " + want + ")";
        Checks.due(told, got.equals(want) ? 1 : 0, 1);
    }

    private void go() {
        if (run % 10 != 0) {
            furnish();
        }
        while (call < CALLS) {
            step();
        }
    }

    /** Most runs begin with a town in which something can be played. */
    private void furnish() {
        int corners = run % 2 == 0 ? 10 : 1 + below(10);
        for (int i = 0; i < corners; i++) {
            addCorner();
        }
        int organs = usualTunes == 1023 ? 1 + below(3) : run % 3 == 0 ? 5 : 1 + below(5);
        for (int i = 0; i < organs; i++) {
            int organ = i;
            addOrgan();
            same("permit", () -> town.permit(organ, true), () -> reference.permit(organ, true));
            barrel(organ);
        }
        int players = Math.min(8, organs + below(8));
        for (int i = 0; i < players; i++) {
            int player = i;
            int organ = i < organs ? i : below(organs);
            same("addPlayer", town::addPlayer, reference::addPlayer);
            same("assign", () -> town.assign(player, organ), () -> reference.assign(player, organ));
        }
        if (below(2) == 0) {
            int distance = below(100);
            same("set", () -> town.set(0, distance), () -> reference.set(0, distance));
        }
        same("lots", town::lots, reference::lots);
    }

    private void step() {
        int dice = below(100);
        if (reference.count(4) == 0 && reference.count(7) == 0 && below(2) == 0) {
            morning();
        } else if (dice < 34) {
            play();
        } else if (dice < 50) {
            same("next", town::next, reference::next);
        } else if (dice < 62) {
            ask();
        } else if (dice < 70) {
            change();
        } else if (dice < 78) {
            texts();
        } else if (dice < 81) {
            int times = below(5) == 0 ? 7 : 1;
            for (int i = 0; i < times; i++) {
                same("undo", town::undo, reference::undo);
            }
        } else if (dice < 82) {
            morning();
        } else if (dice < 91) {
            wouldBe();
        } else {
            same("digest", town::digest, reference::digest);
        }
    }

    private void morning() {
        if (below(8) > 0) {
            same("lots", town::lots, reference::lots);
        }
        boolean wet = below(2) == 0;
        same("weather", () -> town.weather(wet), () -> reference.weather(wet));
    }

    private int organ() {
        return about(0, reference.count(1) - 1);
    }

    private int player() {
        return about(0, reference.count(2) - 1);
    }

    /** An organ that can play, if there is one and the dice say so. */
    private int organToPlay() {
        int organs = reference.count(1);
        int first = below(5);
        for (int i = 0; i < organs && below(20) > 0; i++) {
            int organ = (first + i) % organs;
            if (reference.kindestTune(organ) != ReferenceTown.NONE) {
                return organ;
            }
        }
        return organ();
    }

    private void play() {
        int organ = organToPlay();
        int tune = about(0, 9);
        if (below(2) == 0) {
            same("play", () -> town.play(organ, tune), () -> reference.play(organ, tune));
        }
        int kindest = (int) Math.max(0, asNumber(outcome(() -> reference.kindestTune(organ))));
        same("play kindest", () -> town.play(organ, kindest), () -> reference.play(organ, kindest));
    }

    private static long asNumber(String outcome) {
        return outcome.startsWith("throws") ? 0 : Long.parseLong(outcome);
    }

    private void addCorner() {
        int place = about(0, 99);
        int crowd = about(1, 90);
        int first = about(0, 9);
        int quiet = below(3) > 0 ? below(2) : about(0, 9);
        same("addCorner", () -> town.addCorner(place, crowd, first, quiet),
                () -> reference.addCorner(place, crowd, first, quiet));
    }

    private void addOrgan() {
        int percent = about(0, 50);
        same("addOrgan", () -> town.addOrgan(percent), () -> reference.addOrgan(percent));
    }

    private void barrel(int organ) {
        int dice = below(6);
        int tunes = dice == 0 ? about(0, 1023) : dice == 1 ? 1 << below(3)
                : dice == 2 ? usualTunes & below(1024) : usualTunes;
        same("barrel", () -> town.barrel(organ, tunes), () -> reference.barrel(organ, tunes));
    }

    private void change() {
        int organ = organ();
        int player = player();
        switch (below(8)) {
            case 0:
                addCorner();
                break;
            case 1:
                addOrgan();
                break;
            case 2:
                same("addPlayer", town::addPlayer, reference::addPlayer);
                break;
            case 3:
                boolean permit = below(4) > 0;
                same("permit", () -> town.permit(organ, permit),
                        () -> reference.permit(organ, permit));
                break;
            case 4:
                barrel(organ);
                break;
            case 5:
            case 6:
                int crew = below(10) == 0 ? -1 : organ;
                same("assign", () -> town.assign(player, crew), () -> reference.assign(player, crew));
                break;
            default:
                int[] greatest = {99, 9, 50, 100, 50};
                int setting = about(0, 4);
                int value = about(0, setting >= 0 && setting < 5 ? greatest[setting] : 10);
                same("set", () -> town.set(setting, value), () -> reference.set(setting, value));
        }
    }

    private void texts() {
        int dice = below(10);
        if (dice == 0) {
            int code = about(33, 126);
            same("append", () -> town.append(code), () -> reference.append(code));
        } else if (dice == 1) {
            same("clearBuffer", town::clearBuffer, reference::clearBuffer);
        } else if (dice == 2) {
            same("firstError", town::firstError, reference::firstError);
        } else if (dice == 3) {
            same("run", town::run, reference::run);
        } else {
            same("clearBuffer", town::clearBuffer, reference::clearBuffer);
            StringBuilder text = new StringBuilder();
            String[] orders = below(2) == 0 ? ORDERS : LIKELY;
            int length = 1 + below(below(3) == 0 ? 14 : 5);
            for (int i = 0; i < length; i++) {
                text.append(i == 0 ? "" : ";").append(orders[below(orders.length)]);
            }
            if (below(5) == 0) {
                text.setLength(below(text.length() + 1));
            }
            for (int i = 0; i < text.length(); i++) {
                int code = below(150) == 0 ? 33 + below(94) : text.charAt(i);
                same("append", () -> town.append(code), () -> reference.append(code));
            }
            same("firstError", town::firstError, reference::firstError);
            same("run", town::run, reference::run);
        }
    }

    private void ask() {
        int organ = organ();
        int player = player();
        int corner = about(0, reference.count(0) - 1);
        int corners = about(0, 5);
        int organs = about(0, 8);
        int players = about(0, 4);
        int counts = about(0, 15);
        int setting = about(0, 4);
        same("corner", () -> town.corner(corner, corners), () -> reference.corner(corner, corners));
        same("organ", () -> town.organ(organ, organs), () -> reference.organ(organ, organs));
        same("player", () -> town.player(player, players), () -> reference.player(player, players));
        same("hours", () -> town.hours(player, organ), () -> reference.hours(player, organ));
        same("count", () -> town.count(counts), () -> reference.count(counts));
        same("setting", () -> town.setting(setting), () -> reference.setting(setting));
    }

    private void wouldBe() {
        int organ = organ();
        int player = player();
        int tune = about(0, 9);
        int what = about(0, 1);
        same("whyNot", () -> town.whyNot(organ, tune), () -> reference.whyNot(organ, tune));
        same("ifPlayed", () -> town.ifPlayed(organ), () -> reference.ifPlayed(organ));
        same("kindestTune", () -> town.kindestTune(organ), () -> reference.kindestTune(organ));
        same("most", () -> town.most(what), () -> reference.most(what));
        same("ifEnded", () -> town.ifEnded(player), () -> reference.ifEnded(player));
        same("playersShare", () -> Double.doubleToLongBits(town.playersShare()),
                () -> Double.doubleToLongBits(reference.playersShare()));
    }
}
