import java.util.ArrayDeque;
import java.util.ArrayList;
import java.util.Comparator;
import java.util.Deque;
import java.util.HashMap;
import java.util.HashSet;
import java.util.List;
import java.util.Map;
import java.util.Set;
import java.util.regex.Matcher;
import java.util.regex.Pattern;
import java.util.stream.Collectors;
import java.util.stream.IntStream;

/**
 * The document once more, as slowly and literally as it can be written: time goes tick by tick,
 * waits are tried one by one, states are copied whole. Storms hold PenStrike against it.
 */
final class PlainPlotter {
    static final int INVALID = -1000001;
    static final int IMPOSSIBLE = -1000002;
    static final int LIMIT = -1000003;
    static final int MISSING = -1000004;

    private static final class Pen {
        int kind;
        int capacity;
        int ink;
        int drawn;
        int idle;
        int place;
        boolean away;

        Pen copy() {
            Pen p = new Pen();
            p.kind = kind;
            p.capacity = capacity;
            p.ink = ink;
            p.drawn = drawn;
            p.idle = idle;
            p.place = place;
            p.away = away;
            return p;
        }
    }

    private record Point(int x, int y) {
        int to(Point other) {
            int dx = x > other.x ? x - other.x : other.x - x;
            int dy = y > other.y ? y - other.y : other.y - y;
            return dx > dy ? dx : dy;
        }
    }

    private record Line(Point first, Point second) {
        Point end(int way) {
            return way == 0 ? first : second;
        }

        int length() {
            return first.to(second);
        }
    }

    private record Drawn(int pen, int done, int wetTicks, float shade) {
    }

    private static final class State {
        int[] settings = {60, 40, 10, 5, 4};
        List<Pen> pens = new ArrayList<>();
        List<Line> lines = new ArrayList<>();
        Map<Integer, Drawn> drawn = new HashMap<>();
        int time;
        Integer hand;
        Point at = new Point(0, 0);
        int swaps;
        int travel;

        State copy() {
            State s = new State();
            s.settings = settings.clone();
            pens.forEach(p -> s.pens.add(p.copy()));
            s.lines.addAll(lines);
            s.drawn.putAll(drawn);
            s.time = time;
            s.hand = hand;
            s.at = at;
            s.swaps = swaps;
            s.travel = travel;
            return s;
        }
    }

    private State now = new State();
    private final Deque<State> history = new ArrayDeque<>();
    private String text = "";

    private void record(State before) {
        history.addLast(before);
        if (history.size() == 5) {
            history.removeFirst();
        }
    }

    private static boolean in(int value, int from, int to) {
        return from <= value && value <= to;
    }

    private boolean noPen(int pen) {
        return pen < 0 || pen >= now.pens.size();
    }

    private boolean noLine(int line) {
        return line < 0 || line >= now.lines.size();
    }

    // ---- settings, pens, lines

    int set(int what, int value) {
        int[][] ranges = {{0, 500}, {1, 200}, {0, 100}, {0, 50}, {0, 50}};
        if (what < 0 || what > 4 || !in(value, ranges[what][0], ranges[what][1])) {
            return INVALID;
        }
        record(now.copy());
        int was = now.settings[what];
        now.settings[what] = value;
        return was;
    }

    int pen(int kind, int capacity, int holder, int slot) {
        if (!in(kind, 0, 1) || !in(capacity, 10, 5000) || !in(holder, 0, 2) || !in(slot, 0, 1)) {
            return INVALID;
        }
        boolean taken = now.pens.stream().anyMatch(p -> p.place == 10 * holder + slot);
        if (taken || (holder == 0 && kind == 1) || (holder == 1 && kind == 0)) {
            return IMPOSSIBLE;
        }
        if (now.pens.size() == 5) {
            return LIMIT;
        }
        record(now.copy());
        Pen p = new Pen();
        p.kind = kind;
        p.capacity = capacity;
        p.ink = capacity;
        p.place = 10 * holder + slot;
        now.pens.add(p);
        return now.pens.size() - 1;
    }

    int line(int x, int y, int x2, int y2) {
        if (!in(x, 0, 99) || !in(y, 0, 99) || !in(x2, 0, 99) || !in(y2, 0, 99)) {
            return INVALID;
        }
        Line line = new Line(new Point(x, y), new Point(x2, y2));
        if (line.first.equals(line.second)) {
            return INVALID;
        }
        if (now.lines.size() == 16) {
            return LIMIT;
        }
        record(now.copy());
        now.lines.add(line);
        return now.lines.size() - 1;
    }

    int leave(int pen, int is) {
        if (noPen(pen) || !in(is, 0, 1)) {
            return INVALID;
        }
        if (now.pens.get(pen).away == (is == 1) || (now.hand != null && now.hand == pen)) {
            return IMPOSSIBLE;
        }
        record(now.copy());
        now.pens.get(pen).away = is == 1;
        return present(now).size();
    }

    private static List<Integer> present(State s) {
        return IntStream.range(0, s.pens.size()).filter(i -> !s.pens.get(i).away).boxed().collect(Collectors.toList());
    }

    int refill(int pen) {
        if (noPen(pen)) {
            return INVALID;
        }
        Pen p = now.pens.get(pen);
        if (p.ink == p.capacity) {
            return IMPOSSIBLE;
        }
        record(now.copy());
        int filled = p.capacity - p.ink;
        p.ink = p.capacity;
        return filled;
    }

    int penOf(int pen, int what) {
        if (noPen(pen) || !in(what, 0, 10)) {
            return INVALID;
        }
        Pen p = now.pens.get(pen);
        int[] all = {p.kind, p.capacity, p.ink, p.drawn, p.idle, p.place,
            now.hand != null && now.hand == pen ? 1 : 0, p.away ? 1 : 0, strikes(now, pen) ? 1 : 0,
            p.idle > now.settings[1] ? 1 : 0, (int) now.drawn.values().stream().filter(d -> d.pen == pen).count()};
        return all[what];
    }

    private static boolean strikes(State s, int pen) {
        if (s.pens.get(pen).away) {
            return false;
        }
        int least = present(s).stream().mapToInt(i -> s.pens.get(i).drawn).min().getAsInt();
        return s.pens.get(pen).drawn > least + s.settings[0];
    }

    private static boolean wet(State s, int line, int time) {
        Drawn d = s.drawn.get(line);
        return d != null && time < d.done + d.wetTicks;
    }

    int lineOf(int line, int what) {
        if (noLine(line) || !in(what, 0, 9)) {
            return INVALID;
        }
        Line l = now.lines.get(line);
        Drawn d = now.drawn.get(line);
        switch (what) {
            case 0: return l.first.x;
            case 1: return l.first.y;
            case 2: return l.second.x;
            case 3: return l.second.y;
            case 4: return l.length();
            case 5: return d == null ? 0 : 1;
            case 6: return d == null ? MISSING : d.pen;
            case 7: return d == null ? MISSING : d.done;
            case 8: return wet(now, line, now.time) ? 1 : 0;
            default: return d == null ? MISSING : Float.floatToIntBits(d.shade);
        }
    }

    // ---- the hand

    private static void tick(State s, int ticks, boolean drawing) {
        for (int i = 0; i < ticks; i++) {
            s.time++;
            if (s.hand != null) {
                s.pens.get(s.hand).idle = drawing ? 0 : s.pens.get(s.hand).idle + 1;
            }
        }
    }

    private static boolean tooLate(State s, int ticks) {
        return s.time + ticks > 100000;
    }

    private static int doTake(State s, int pen) {
        if ((s.hand != null && s.hand == pen) || s.pens.get(pen).away) {
            return IMPOSSIBLE;
        }
        if (tooLate(s, s.settings[3])) {
            return LIMIT;
        }
        int answer = s.hand == null ? 0 : 1 + s.hand;
        tick(s, s.settings[3], false);
        s.hand = pen;
        s.swaps++;
        return answer;
    }

    private static int doHome(State s) {
        if (s.hand == null) {
            return IMPOSSIBLE;
        }
        if (tooLate(s, s.settings[3])) {
            return LIMIT;
        }
        int answer = s.hand;
        tick(s, s.settings[3], false);
        s.hand = null;
        s.swaps++;
        return answer;
    }

    private static int doDraw(State s, int line, int way) {
        if (why(s, line, way) != 0) {
            return IMPOSSIBLE;
        }
        Line l = s.lines.get(line);
        Pen p = s.pens.get(s.hand);
        int travel = s.at.to(l.end(way));
        tick(s, travel, false);
        s.travel += travel;
        float shade = (float) p.ink / (float) p.capacity;
        tick(s, l.length(), true);
        p.ink -= p.kind == 0 ? l.length() : l.length() + l.length();
        p.drawn += l.length();
        s.at = l.end(way == 0 ? 1 : 0);
        s.drawn.put(line, new Drawn(s.hand, s.time, s.settings[2], shade));
        return s.time;
    }

    private static int doWait(State s, int ticks) {
        if (!in(ticks, 1, 200)) {
            return INVALID;
        }
        if (tooLate(s, ticks)) {
            return LIMIT;
        }
        tick(s, ticks, false);
        return s.time;
    }

    private static int doClean(State s) {
        if (s.hand == null) {
            return IMPOSSIBLE;
        }
        if (tooLate(s, s.settings[4])) {
            return LIMIT;
        }
        int answer = s.pens.get(s.hand).idle;
        tick(s, s.settings[4], false);
        s.pens.get(s.hand).idle = 0;
        return answer;
    }

    private int kept(State before, int answer) {
        if (!in(answer, MISSING, INVALID)) {
            record(before);
        }
        return answer;
    }

    int take(int pen) {
        return noPen(pen) ? INVALID : kept(now.copy(), doTake(now, pen));
    }

    int home() {
        return kept(now.copy(), doHome(now));
    }

    int draw(int line, int way) {
        return noLine(line) || !in(way, 0, 1) ? INVALID : kept(now.copy(), doDraw(now, line, way));
    }

    int waits(int ticks) {
        return kept(now.copy(), doWait(now, ticks));
    }

    int clean() {
        return kept(now.copy(), doClean(now));
    }

    int erase(int line) {
        if (noLine(line)) {
            return INVALID;
        }
        if (!now.drawn.containsKey(line)) {
            return IMPOSSIBLE;
        }
        record(now.copy());
        return now.drawn.remove(line).pen;
    }

    private static int why(State s, int line, int way) {
        if (s.hand == null) {
            return 1;
        }
        if (s.drawn.containsKey(line)) {
            return 2;
        }
        if (strikes(s, s.hand)) {
            return 3;
        }
        Pen p = s.pens.get(s.hand);
        Line l = s.lines.get(line);
        if (p.ink < (p.kind + 1) * l.length()) {
            return 4;
        }
        State there = s.copy();
        tick(there, s.at.to(l.end(way)), false);
        if (p.idle > s.settings[1] || there.pens.get(s.hand).idle > s.settings[1]) {
            return 5;
        }
        for (int other = 0; other < s.lines.size(); other++) {
            if (wet(s, other, there.time) && s.drawn.get(other).pen != s.hand && touch(l, s.lines.get(other))) {
                return 6;
            }
        }
        return there.time + l.length() > 100000 ? 7 : 0;
    }

    int whyNot(int line, int way) {
        return noLine(line) || !in(way, 0, 1) ? INVALID : why(now, line, way);
    }

    int waitFor(int line, int way) {
        if (noLine(line) || !in(way, 0, 1)) {
            return INVALID;
        }
        for (int ticks = 0; ticks <= 200; ticks++) {
            State then = now.copy();
            if ((ticks == 0 || doWait(then, ticks) >= 0) && why(then, line, way) == 0) {
                return ticks;
            }
        }
        return MISSING;
    }

    // ---- strikes, seams, shades

    int strikers() {
        return IntStream.range(0, now.pens.size()).filter(i -> strikes(now, i)).map(i -> 1 << i).sum();
    }

    int room(int pen) {
        if (noPen(pen)) {
            return INVALID;
        }
        if (now.pens.get(pen).away) {
            return IMPOSSIBLE;
        }
        if (present(now).size() < 2) {
            return MISSING;
        }
        int canDraw = -200000;
        int cannot = 200000;
        while (cannot - canDraw > 1) {
            int length = Math.floorDiv(canDraw + cannot, 2);
            State then = now.copy();
            then.pens.get(pen).drawn += length;
            if (strikes(then, pen)) {
                cannot = length;
            } else {
                canDraw = length;
            }
        }
        return canDraw;
    }

    int spread() {
        List<Integer> lengths = present(now).stream().map(i -> now.pens.get(i).drawn).sorted().collect(Collectors.toList());
        return lengths.isEmpty() ? MISSING : lengths.get(lengths.size() - 1) - lengths.get(0);
    }

    /** Solves for the common point of both lines in whole numbers, as they run from 0 to 1. */
    private static boolean touch(Line a, Line b) {
        long ax = a.second.x - a.first.x;
        long ay = a.second.y - a.first.y;
        long bx = b.second.x - b.first.x;
        long by = b.second.y - b.first.y;
        long ox = b.first.x - a.first.x;
        long oy = b.first.y - a.first.y;
        long turn = ax * by - ay * bx;
        if (turn != 0) {
            long s = (ox * by - oy * bx) * Long.signum(turn);
            long t = (ox * ay - oy * ax) * Long.signum(turn);
            long most = Math.abs(turn);
            return 0 <= s && s <= most && 0 <= t && t <= most;
        }
        return on(a, b.first) || on(a, b.second) || on(b, a.first) || on(b, a.second);
    }

    private static boolean on(Line l, Point p) {
        long dx = l.second.x - l.first.x;
        long dy = l.second.y - l.first.y;
        long px = p.x - l.first.x;
        long py = p.y - l.first.y;
        long along = dx * px + dy * py;
        return dx * py == dy * px && along >= 0 && along <= dx * dx + dy * dy;
    }

    int touch(int one, int other) {
        return noLine(one) || noLine(other) ? INVALID : touch(now.lines.get(one), now.lines.get(other)) ? 1 : 0;
    }

    int touching(int line) {
        if (noLine(line)) {
            return INVALID;
        }
        return IntStream.range(0, now.lines.size()).filter(i -> i != line && touch(i, line) == 1).map(i -> 1 << i).sum();
    }

    private static int seams(State s) {
        Map<Point, Set<Integer>> pens = new HashMap<>();
        s.drawn.forEach((line, drawn) -> {
            for (int way = 0; way <= 1; way++) {
                pens.computeIfAbsent(s.lines.get(line).end(way), p -> new HashSet<>()).add(drawn.pen);
            }
        });
        return (int) pens.values().stream().filter(set -> set.size() > 1).count();
    }

    int seams() {
        return seams(now);
    }

    int seamsBy(int line, int pen) {
        if (noLine(line) || noPen(pen)) {
            return INVALID;
        }
        if (now.drawn.containsKey(line)) {
            return IMPOSSIBLE;
        }
        State then = now.copy();
        then.drawn.put(line, new Drawn(pen, 0, 0, 1));
        return seams(then) - seams(now);
    }

    int meanShade() {
        if (now.drawn.isEmpty()) {
            return MISSING;
        }
        double sum = 0;
        for (int line = 0; line < 16; line++) {
            if (now.drawn.containsKey(line)) {
                sum += now.drawn.get(line).shade;
            }
        }
        return Float.floatToIntBits((float) (sum / now.drawn.size()));
    }

    // ---- plans

    private Map<Integer, Integer> plan(int[] load) {
        Map<Integer, Integer> plan = new HashMap<>();
        for (int pen = 0; pen < now.pens.size(); pen++) {
            load[pen] = now.pens.get(pen).drawn;
        }
        IntStream.range(0, now.lines.size()).filter(i -> !now.drawn.containsKey(i)).boxed()
            .sorted(Comparator.comparingInt((Integer i) -> -now.lines.get(i).length()).thenComparingInt(i -> i))
            .forEach(line -> present(now).stream().min(Comparator.comparingInt(pen -> 10 * load[pen] + pen))
                .ifPresent(pen -> {
                    plan.put(line, pen);
                    load[pen] += now.lines.get(line).length();
                }));
        return plan;
    }

    int fair(int line) {
        if (noLine(line)) {
            return INVALID;
        }
        if (now.drawn.containsKey(line)) {
            return IMPOSSIBLE;
        }
        return plan(new int[5]).getOrDefault(line, MISSING);
    }

    int fairSpread() {
        int[] load = new int[5];
        plan(load);
        List<Integer> lengths = present(now).stream().map(i -> load[i]).sorted().collect(Collectors.toList());
        return lengths.isEmpty() ? MISSING : lengths.get(lengths.size() - 1) - lengths.get(0);
    }

    int tour(int index, int what) {
        if (index < 0 || !in(what, 0, 2)) {
            return INVALID;
        }
        if (now.hand == null) {
            return IMPOSSIBLE;
        }
        Set<Integer> left = new HashSet<>();
        plan(new int[5]).forEach((line, pen) -> {
            if (pen.equals(now.hand)) {
                left.add(line);
            }
        });
        Point at = now.at;
        int ticks = 0;
        for (int i = 0; !left.isEmpty(); i++) {
            int best = Integer.MAX_VALUE;
            for (int line : left) {
                for (int way = 0; way <= 1; way++) {
                    best = Math.min(best, 1000 * at.to(now.lines.get(line).end(way)) + 10 * line + way);
                }
            }
            int line = best % 1000 / 10;
            int way = best % 10;
            ticks += best / 1000 + now.lines.get(line).length();
            if (i == index) {
                return what == 0 ? line : what == 1 ? way : ticks;
            }
            at = now.lines.get(line).end(1 - way);
            left.remove(line);
        }
        return MISSING;
    }

    int count(int what) {
        switch (what) {
            case 0: return now.pens.size();
            case 1: return now.lines.size();
            case 2: return now.drawn.size();
            case 3: return (int) now.drawn.keySet().stream().filter(i -> wet(now, i, now.time)).count();
            case 4: return now.time;
            case 5: return now.hand == null ? MISSING : now.hand;
            case 6: return now.at.x;
            case 7: return now.at.y;
            case 8: return IntStream.range(0, now.lines.size()).filter(i -> !now.drawn.containsKey(i))
                .map(i -> now.lines.get(i).length()).sum();
            case 9: return now.swaps;
            case 10: return now.travel;
            case 11: return history.size();
            case 12: return text.length();
            case 20: case 21: case 22: case 23: case 24: return now.settings[what - 20];
            default: return INVALID;
        }
    }

    int undo() {
        if (history.isEmpty()) {
            return IMPOSSIBLE;
        }
        now = history.removeLast();
        return history.size();
    }

    // ---- texts

    private static final Pattern ORDER = Pattern.compile("([pdrw])([0-9]{1,3});|([hc]);");
    private static final Pattern BEGIN = Pattern.compile("[pdrw][0-9]{0,3}|[hc]|");

    private static final class Found {
        int position;
        int reason;
        int cause = MISSING;
        int orders;
    }

    private Found goThrough(State s) {
        Found found = new Found();
        while (found.position < text.length()) {
            String rest = text.substring(found.position);
            Matcher order = ORDER.matcher(rest);
            if (!order.lookingAt()) {
                found.reason = 1;
                Matcher begin = BEGIN.matcher(rest);
                begin.lookingAt();
                found.cause = begin.end();
                return found;
            }
            found.reason = order.group(3) != null ? doShort(s, order.group(3))
                : doLong(s, order.group(1), Integer.parseInt(order.group(2)), found);
            if (found.reason != 0) {
                return found;
            }
            found.orders++;
            found.position += order.end();
        }
        return found;
    }

    private static int doShort(State s, String letter) {
        return (letter.equals("h") ? doHome(s) : doClean(s)) < 0 ? 3 : 0;
    }

    private static int doLong(State s, String letter, int number, Found found) {
        if (letter.equals("w")) {
            return doWait(s, number) < 0 ? 3 : 0;
        }
        if (number >= (letter.equals("p") ? s.pens.size() : s.lines.size())) {
            return 2;
        }
        if (letter.equals("p")) {
            return doTake(s, number) < 0 ? 3 : 0;
        }
        int way = letter.equals("d") ? 0 : 1;
        int why = why(s, number, way);
        if (why != 0) {
            found.cause = why;
            return 3;
        }
        doDraw(s, number, way);
        return 0;
    }

    int type(int character) {
        if (!in(character, 32, 126)) {
            return INVALID;
        }
        if (text.length() == 60) {
            return LIMIT;
        }
        text += (char) character;
        return text.length();
    }

    int clearText() {
        int length = text.length();
        text = "";
        return length;
    }

    int fault(int what) {
        if (!in(what, 0, 2)) {
            return INVALID;
        }
        Found found = goThrough(now.copy());
        if (found.reason == 0) {
            return MISSING;
        }
        return what == 0 ? found.position : what == 1 ? found.reason : found.cause;
    }

    int play() {
        State then = now.copy();
        Found found = goThrough(then);
        if (found.reason != 0) {
            return IMPOSSIBLE;
        }
        record(now);
        now = then;
        return found.orders;
    }
}
