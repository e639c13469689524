import java.util.Map;
import java.util.TreeMap;

/**
 * Storms of calls, always the same ones, on PenStrike and on the plain plotter beside it: each
 * answer must be the same. What kinds of answers came is counted, so that a storm that has
 * become too tame is seen.
 */
public final class StormTest {
    private static final int STORMS = 3000;
    private static final int CALLS = 512;
    private static final String[] NAMES = {"set", "pen", "line", "leave", "refill", "penOf", "lineOf", "take", "home",
        "draw", "erase", "waits", "clean", "whyNot", "waitFor", "strikers", "room", "spread", "touch", "touching",
        "seams", "seamsBy", "meanShade", "fair", "fairSpread", "tour", "count", "undo", "type", "clearText", "fault",
        "play"};
    private static final int[] WEIGHTS = {5, 5, 14, 3, 4, 5, 8, 14, 3, 40, 6, 8, 6, 12, 12, 2, 4, 2, 6, 4, 4, 6, 4, 4, 3,
        6, 6, 6, 0, 2, 5, 4};
    private static final int[] ODD = {Integer.MIN_VALUE, -1000001, -2, -1, 16, 17, 100, 101, 200, 201, 501, 5001,
        1000000, Integer.MAX_VALUE};
    private static final String SIGNS = "pdrwhc;;;0123456789 xz~!PDRWHC:/";

    private static final Map<String, Integer> SEEN = new TreeMap<>();
    private static long seed;
    private static int wrong = 0;

    private final PenStrike real = new PenStrike();
    private final PlainPlotter plain = new PlainPlotter();
    private final StringBuilder told = new StringBuilder();
    private final int storm;
    private final int grid;
    private int left = CALLS;
    private boolean isOff = false;

    private StormTest(int storm) {
        this.storm = storm;
        int[] grids = {3, 5, 10, 20, 99};
        this.grid = grids[storm % grids.length];
    }

    public static void main(String[] args) {
        for (int storm = 0; storm < STORMS && wrong < 5; storm++) {
            seed = 7919L * storm + 17;
            new StormTest(storm).blow();
        }
        System.out.println(STORMS + " storms, " + SEEN.size() + " kinds of answers, " + wrong + " wrong");
        if (wrong != 0 || isTooTame()) {
            System.exit(1);
        }
    }

    private static boolean isTooTame() {
        boolean tame = false;
        for (String name : new String[] {"whyNot 0", "whyNot 1", "whyNot 2", "whyNot 3", "whyNot 4", "whyNot 5", "whyNot 6",
            "whyNot 7", "waitFor 0", "waitFor more", "seams 0", "seams 1", "seams more", "seamsBy 0", "seamsBy 1",
            "seamsBy 2", "touch 0", "touch 1", "fault0 more", "fault1 1", "fault1 2", "fault1 3", "fault2 0", "fault2 1",
            "fault2 2", "fault2 3", "fault2 more", "play more", "take LIMIT", "home LIMIT", "clean LIMIT", "waits LIMIT",
            "type LIMIT", "room below", "room more", "tour2 more", "strikers more", "pen LIMIT", "line LIMIT"}) {
            if (SEEN.getOrDefault(name, 0) < 10) {
                tame = true;
                System.out.println("too seldom: " + name + " " + SEEN.getOrDefault(name, 0));
            }
        }
        return tame;
    }

    private static int below(int bound) {
        seed = seed * 6364136223846793005L + 1442695040888963407L;
        return (int) ((seed >>> 33) % bound);
    }

    private void blow() {
        if (storm % 4 == 0) {
            goNearTheEnd();
        }
        for (int i = 0; i < 3; i++) {
            call("pen", below(2), 10 + below(storm % 3 == 0 ? 60 : 3000), below(3), below(2));
        }
        while (left > 0 && !isOff) {
            if (below(14) == 0) {
                typeText();
            } else {
                anyCall();
            }
        }
    }

    private void goNearTheEnd() {
        for (int i = 0; i < 60; i++) {
            call("type", "w200;".charAt(i % 5));
        }
        for (int i = 0; i < 41; i++) {
            call("play");
        }
        for (int i = 0; i < 5 + below(3); i++) {
            call("waits", 200);
        }
        call("waits", 1 + below(199));
        call("clearText");
    }

    private void typeText() {
        call("clearText");
        StringBuilder text = new StringBuilder();
        int orders = below(60) == 0 ? 30 : below(7);
        for (int i = 0; i < orders; i++) {
            text.append(order());
        }
        if (below(4) == 0) {
            text.append(SIGNS.charAt(below(SIGNS.length())));
        }
        for (int i = 0; i < text.length(); i++) {
            call("type", text.charAt(i));
        }
        for (int what = 0; what <= 2; what++) {
            call("fault", what);
        }
        call("play");
    }

    private String order() {
        switch (below(9)) {
            case 0: return "h;";
            case 1: return "c;";
            case 2: return "w" + below(below(20) == 0 ? 260 : 25) + ";";
            case 3: case 4: return "p" + (below(5) == 0 ? "0" : "") + below(below(8) == 0 ? 7 : Math.max(1, plain.count(0))) + ";";
            case 5: case 6: return "d" + below(below(9) == 0 ? 20 : Math.max(1, plain.count(1))) + ";";
            case 7: return "r" + below(Math.max(1, plain.count(1))) + (below(30) == 0 ? "" : ";");
            default:
                String some = "";
                for (int i = below(4); i > 0; i--) {
                    some += SIGNS.charAt(below(SIGNS.length()));
                }
                return below(8) == 0 ? some : "";
        }
    }

    private void anyCall() {
        int sum = 0;
        for (int weight : WEIGHTS) {
            sum += weight;
        }
        int at = below(sum);
        int i = 0;
        while (at >= WEIGHTS[i]) {
            at -= WEIGHTS[i];
            i++;
        }
        String name = NAMES[i];
        int[] arguments = argumentsFor(name);
        for (int a = 0; a < arguments.length; a++) {
            if (below(60) == 0) {
                arguments[a] = ODD[below(ODD.length)];
            }
        }
        call(name, arguments);
    }

    private int aPen() {
        return below(Math.max(1, plain.count(0)));
    }

    private int aLine() {
        return below(Math.max(1, plain.count(1)));
    }

    private int[] argumentsFor(String name) {
        switch (name) {
            case "set":
                int what = below(5);
                int[] most = {storm % 2 == 0 ? 40 : 500, 200, 100, 50, 50};
                int least = what == 2 || (what == 1 && storm % 5 != 0) ? most[what] / 2 : 0;
                return new int[] {what, least + below(most[what] - least + 1)};
            case "pen": return new int[] {below(2), 10 + below(500), below(3), below(2)};
            case "line": return new int[] {below(grid + 1), below(grid + 1), below(grid + 1), below(grid + 1)};
            case "leave": return new int[] {aPen(), below(2)};
            case "refill": case "take": case "room": return new int[] {aPen()};
            case "penOf": return new int[] {aPen(), below(11)};
            case "lineOf": return new int[] {aLine(), below(10)};
            case "draw": case "whyNot": case "waitFor": return new int[] {aLine(), below(2)};
            case "erase": case "touching": case "fair": return new int[] {aLine()};
            case "waits": return new int[] {1 + below(below(5) == 0 ? 200 : 15)};
            case "touch": return new int[] {aLine(), aLine()};
            case "seamsBy": return new int[] {aLine(), aPen()};
            case "tour": return new int[] {below(1 + plain.count(1)), below(3)};
            case "count": return new int[] {below(26)};
            case "type": return new int[] {32 + below(95)};
            case "fault": return new int[] {below(3)};
            default: return new int[0];
        }
    }

    private void call(String name, int... a) {
        if (left <= 0 || isOff) {
            return;
        }
        left--;
        int got;
        try {
            got = ofReal(name, a);
        } catch (RuntimeException e) {
            told.append(e).append('\n');
            got = Integer.MIN_VALUE;
        }
        int want = ofPlain(name, a);
        told.append(name).append(java.util.Arrays.toString(a)).append(" -> ").append(got).append('\n');
        SEEN.merge(kindOf(name, a, got), 1, Integer::sum);
        if (got != want) {
            wrong++;
            isOff = true;
            System.out.println("storm " + storm + ", due is " + want + ":\n" + told);
        }
    }

    private static String kindOf(String name, int[] a, int got) {
        String[] errors = {"MISSING", "LIMIT", "IMPOSSIBLE", "INVALID"};
        boolean isByWhat = name.equals("fault") || name.equals("tour");
        if (got >= -1000004 && got <= -1000001) {
            return name + " " + errors[got + 1000004];
        }
        String whole = isByWhat ? name + a[a.length - 1] : name;
        return whole + (got < 0 ? " below" : got <= (name.equals("whyNot") ? 7 : 3) ? " " + got : " more");
    }

    private int ofReal(String name, int[] a) {
        switch (name) {
            case "set": return real.set(a[0], a[1]);
            case "pen": return real.pen(a[0], a[1], a[2], a[3]);
            case "line": return real.line(a[0], a[1], a[2], a[3]);
            case "leave": return real.leave(a[0], a[1]);
            case "refill": return real.refill(a[0]);
            case "penOf": return real.penOf(a[0], a[1]);
            case "lineOf": return real.lineOf(a[0], a[1]);
            case "take": return real.take(a[0]);
            case "home": return real.home();
            case "draw": return real.draw(a[0], a[1]);
            case "erase": return real.erase(a[0]);
            case "waits": return real.waits(a[0]);
            case "clean": return real.clean();
            case "whyNot": return real.whyNot(a[0], a[1]);
            case "waitFor": return real.waitFor(a[0], a[1]);
            case "strikers": return real.strikers();
            case "room": return real.room(a[0]);
            case "spread": return real.spread();
            case "touch": return real.touch(a[0], a[1]);
            case "touching": return real.touching(a[0]);
            case "seams": return real.seams();
            case "seamsBy": return real.seamsBy(a[0], a[1]);
            case "meanShade": return real.meanShade();
            case "fair": return real.fair(a[0]);
            case "fairSpread": return real.fairSpread();
            case "tour": return real.tour(a[0], a[1]);
            case "count": return real.count(a[0]);
            case "undo": return real.undo();
            case "type": return real.type(a[0]);
            case "clearText": return real.clearText();
            case "fault": return real.fault(a[0]);
            default: return real.play();
        }
    }

    private int ofPlain(String name, int[] a) {
        switch (name) {
            case "set": return plain.set(a[0], a[1]);
            case "pen": return plain.pen(a[0], a[1], a[2], a[3]);
            case "line": return plain.line(a[0], a[1], a[2], a[3]);
            case "leave": return plain.leave(a[0], a[1]);
            case "refill": return plain.refill(a[0]);
            case "penOf": return plain.penOf(a[0], a[1]);
            case "lineOf": return plain.lineOf(a[0], a[1]);
            case "take": return plain.take(a[0]);
            case "home": return plain.home();
            case "draw": return plain.draw(a[0], a[1]);
            case "erase": return plain.erase(a[0]);
            case "waits": return plain.waits(a[0]);
            case "clean": return plain.clean();
            case "whyNot": return plain.whyNot(a[0], a[1]);
            case "waitFor": return plain.waitFor(a[0], a[1]);
            case "strikers": return plain.strikers();
            case "room": return plain.room(a[0]);
            case "spread": return plain.spread();
            case "touch": return plain.touch(a[0], a[1]);
            case "touching": return plain.touching(a[0]);
            case "seams": return plain.seams();
            case "seamsBy": return plain.seamsBy(a[0], a[1]);
            case "meanShade": return plain.meanShade();
            case "fair": return plain.fair(a[0]);
            case "fairSpread": return plain.fairSpread();
            case "tour": return plain.tour(a[0], a[1]);
            case "count": return plain.count(a[0]);
            case "undo": return plain.undo();
            case "type": return plain.type(a[0]);
            case "clearText": return plain.clearText();
            case "fault": return plain.fault(a[0]);
            default: return plain.play();
        }
    }
}
