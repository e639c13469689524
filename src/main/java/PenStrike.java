public final class PenStrike {
    public static final int INVALID_ARGUMENT = -1000001;
    public static final int NOT_POSSIBLE = -1000002;
    public static final int LIMIT_REACHED = -1000003;
    public static final int NOT_FOUND = -1000004;

    private static final int MOST_PENS = 5;
    private static final int MOST_LINES = 16;
    private static final int MOST_STATES = 4;
    private static final int MOST_SIGNS = 60;
    private static final int MOST_DIGITS = 3;
    private static final int LAST_POINT = 99;
    private static final int LAST_TIME = 100000;
    private static final int LONGEST_WAIT = 200;

    private static final int FINE = 0;
    private static final int BROAD = 1;
    private static final int FINE_HOLDER = 0;
    private static final int BROAD_HOLDER = 1;

    private static final int SETTINGS = 5;
    private static final int BOUND = 0;
    private static final int IDLE_LIMIT = 1;
    private static final int WET_TICKS = 2;
    private static final int SWAP_TICKS = 3;
    private static final int CLEANING_TICKS = 4;
    private static final int[] FIRST_VALUES = {60, 40, 10, 5, 4};
    private static final int[] LEAST_VALUES = {0, 1, 0, 0, 0};
    private static final int[] GREATEST_VALUES = {500, 200, 100, 50, 50};

    private static final int POSSIBLE = 0;
    private static final int NONE = -1;

    private final Plotter now = new Plotter();
    private final Plotter trial = new Plotter();
    private final History history = new History();
    private final Orders orders = new Orders();
    private final FairPlan plan = new FairPlan();
    private final Route route = new Route();

    public PenStrike() {
    }

    // ---- settings, pens, lines

    public int set(int what, int value) {
        if (!isIn(what, 0, SETTINGS - 1) || !isIn(value, LEAST_VALUES[what], GREATEST_VALUES[what])) {
            return INVALID_ARGUMENT;
        }
        history.record(now);
        int before = now.settings[what];
        now.settings[what] = value;
        return before;
    }

    public int pen(int kind, int capacity, int holder, int slot) {
        if (!isIn(kind, FINE, BROAD) || !isIn(capacity, 10, 5000) || !isIn(holder, 0, 2) || !isIn(slot, 0, 1)) {
            return INVALID_ARGUMENT;
        }
        int place = 10 * holder + slot;
        if (!holderTakes(holder, kind) || now.pens.isPlaceOfAny(place)) {
            return NOT_POSSIBLE;
        }
        if (now.pens.many >= MOST_PENS) {
            return LIMIT_REACHED;
        }
        history.record(now);
        return now.pens.add(kind, capacity, place);
    }

    public int line(int x, int y, int x2, int y2) {
        if (!isPoint(x, y) || !isPoint(x2, y2) || (x == x2 && y == y2)) {
            return INVALID_ARGUMENT;
        }
        if (now.lines.many >= MOST_LINES) {
            return LIMIT_REACHED;
        }
        history.record(now);
        return now.lines.add(x, y, x2, y2);
    }

    public int leave(int pen, int is) {
        if (!now.pens.has(pen) || !isIn(is, 0, 1)) {
            return INVALID_ARGUMENT;
        }
        if (now.pens.away[pen] == is || now.hand == pen) {
            return NOT_POSSIBLE;
        }
        history.record(now);
        now.pens.away[pen] = is;
        return now.pens.howManyPresent();
    }

    public int refill(int pen) {
        if (!now.pens.has(pen)) {
            return INVALID_ARGUMENT;
        }
        int missing = now.pens.capacity[pen] - now.pens.ink[pen];
        if (missing == 0) {
            return NOT_POSSIBLE;
        }
        history.record(now);
        now.pens.ink[pen] = now.pens.capacity[pen];
        return missing;
    }

    public int penOf(int pen, int what) {
        if (!now.pens.has(pen)) {
            return INVALID_ARGUMENT;
        }
        switch (what) {
            case 0: return now.pens.kind[pen];
            case 1: return now.pens.capacity[pen];
            case 2: return now.pens.ink[pen];
            case 3: return now.pens.drawn[pen];
            case 4: return now.pens.idle[pen];
            case 5: return now.pens.place[pen];
            case 6: return asBit(now.hand == pen);
            case 7: return now.pens.away[pen];
            case 8: return asBit(now.isStriking(pen));
            case 9: return asBit(now.isClogged(pen));
            case 10: return now.lines.howManyDrawnBy(pen);
            default: return INVALID_ARGUMENT;
        }
    }

    public int lineOf(int line, int what) {
        if (!now.lines.has(line) || !isIn(what, 0, 9)) {
            return INVALID_ARGUMENT;
        }
        boolean isToldOfDrawnOnesAlone = what == 6 || what == 7 || what == 9;
        if (isToldOfDrawnOnesAlone && !now.lines.isDrawn(line)) {
            return NOT_FOUND;
        }
        switch (what) {
            case 0: return now.lines.x[line];
            case 1: return now.lines.y[line];
            case 2: return now.lines.x2[line];
            case 3: return now.lines.y2[line];
            case 4: return now.lines.length[line];
            case 5: return asBit(now.lines.isDrawn(line));
            case 6: return now.lines.drawnBy[line];
            case 7: return now.lines.doneAt[line];
            case 8: return asBit(now.isWet(line));
            default: return bitsOf(now.shadeOf(line));
        }
    }

    // ---- the hand

    public int take(int pen) {
        if (!now.pens.has(pen)) {
            return INVALID_ARGUMENT;
        }
        int error = now.errorOfTaking(pen);
        if (error != POSSIBLE) {
            return error;
        }
        history.record(now);
        return 1 + now.swapTo(pen);
    }

    public int home() {
        int error = now.errorOfGoingHome();
        if (error != POSSIBLE) {
            return error;
        }
        history.record(now);
        return now.swapTo(NONE);
    }

    public int draw(int line, int way) {
        if (!now.lines.has(line) || !isIn(way, 0, 1)) {
            return INVALID_ARGUMENT;
        }
        if (now.reasonAgainst(line, way, 0) != POSSIBLE) {
            return NOT_POSSIBLE;
        }
        history.record(now);
        now.drawByHand(line, way);
        return now.time;
    }

    public int erase(int line) {
        if (!now.lines.has(line)) {
            return INVALID_ARGUMENT;
        }
        if (!now.lines.isDrawn(line)) {
            return NOT_POSSIBLE;
        }
        history.record(now);
        int pen = now.lines.drawnBy[line];
        now.lines.drawnBy[line] = NONE;
        return pen;
    }

    public int waits(int ticks) {
        int error = now.errorOfWaiting(ticks);
        if (error != POSSIBLE) {
            return error;
        }
        history.record(now);
        now.passIdly(ticks);
        return now.time;
    }

    public int clean() {
        int error = now.errorOfCleaning();
        if (error != POSSIBLE) {
            return error;
        }
        history.record(now);
        return now.cleanHand();
    }

    public int whyNot(int line, int way) {
        if (!now.lines.has(line) || !isIn(way, 0, 1)) {
            return INVALID_ARGUMENT;
        }
        return now.reasonAgainst(line, way, 0);
    }

    public int waitFor(int line, int way) {
        if (!now.lines.has(line) || !isIn(way, 0, 1)) {
            return INVALID_ARGUMENT;
        }
        // Wet lines are the one reason that waiting mends; it can only bring clogging
        // and the last time nearer. So the first dry tick is possible, or none is.
        int arrival = now.time + now.travelTo(line, way);
        int ticks = Math.max(0, now.dryTimeFor(line) - arrival);
        if (ticks > LONGEST_WAIT || now.reasonAgainst(line, way, ticks) != POSSIBLE) {
            return NOT_FOUND;
        }
        return ticks;
    }

    // ---- strikes, seams, shades

    public int strikers() {
        int set = 0;
        for (int pen = 0; pen < now.pens.many; pen++) {
            if (now.isStriking(pen)) {
                set |= 1 << pen;
            }
        }
        return set;
    }

    public int room(int pen) {
        if (!now.pens.has(pen)) {
            return INVALID_ARGUMENT;
        }
        if (now.pens.isAway(pen)) {
            return NOT_POSSIBLE;
        }
        int least = now.pens.leastDrawnBut(pen);
        if (least == NONE) {
            return NOT_FOUND;
        }
        return least + now.settings[BOUND] - now.pens.drawn[pen];
    }

    public int spread() {
        return now.pens.spreadOf(now.pens.drawn);
    }

    public int touch(int one, int other) {
        if (!now.lines.has(one) || !now.lines.has(other)) {
            return INVALID_ARGUMENT;
        }
        return asBit(one == other || now.lines.isTouching(one, other));
    }

    public int touching(int line) {
        if (!now.lines.has(line)) {
            return INVALID_ARGUMENT;
        }
        return now.lines.touchingSet[line];
    }

    public int seams() {
        int seams = 0;
        for (int line = 0; line < now.lines.many; line++) {
            seams += now.lines.seamsFirstMetAt(line);
        }
        return seams;
    }

    public int seamsBy(int line, int pen) {
        if (!now.lines.has(line) || !now.pens.has(pen)) {
            return INVALID_ARGUMENT;
        }
        if (now.lines.isDrawn(line)) {
            return NOT_POSSIBLE;
        }
        return asBit(now.lines.wouldBecomeSeam(now.lines.x[line], now.lines.y[line], pen))
            + asBit(now.lines.wouldBecomeSeam(now.lines.x2[line], now.lines.y2[line], pen));
    }

    public int meanShade() {
        double sum = 0.0;
        int drawn = 0;
        for (int line = 0; line < now.lines.many; line++) {
            if (now.lines.isDrawn(line)) {
                sum += (double) now.shadeOf(line);
                drawn++;
            }
        }
        if (drawn == 0) {
            return NOT_FOUND;
        }
        return bitsOf((float) (sum / (double) drawn));
    }

    // ---- plans

    public int fair(int line) {
        if (!now.lines.has(line)) {
            return INVALID_ARGUMENT;
        }
        if (now.lines.isDrawn(line)) {
            return NOT_POSSIBLE;
        }
        plan.make(now.pens, now.lines);
        int pen = plan.penFor[line];
        return pen == NONE ? NOT_FOUND : pen;
    }

    public int fairSpread() {
        plan.make(now.pens, now.lines);
        return now.pens.spreadOf(plan.load);
    }

    public int tour(int index, int what) {
        if (index < 0 || !isIn(what, 0, 2)) {
            return INVALID_ARGUMENT;
        }
        if (now.hand == NONE) {
            return NOT_POSSIBLE;
        }
        plan.make(now.pens, now.lines);
        route.make(now, plan);
        if (index >= route.many) {
            return NOT_FOUND;
        }
        switch (what) {
            case 0: return route.line[index];
            case 1: return route.way[index];
            default: return route.ticks[index];
        }
    }

    public int count(int what) {
        switch (what) {
            case 0: return now.pens.many;
            case 1: return now.lines.many;
            case 2: return now.lines.howManyDrawn();
            case 3: return now.howManyWet();
            case 4: return now.time;
            case 5: return now.hand == NONE ? NOT_FOUND : now.hand;
            case 6: return now.x;
            case 7: return now.y;
            case 8: return now.lines.lengthNotDrawn();
            case 9: return now.swaps;
            case 10: return now.travelled;
            case 11: return history.many;
            case 12: return orders.length;
            default: return isIn(what, 20, 19 + SETTINGS) ? now.settings[what - 20] : INVALID_ARGUMENT;
        }
    }

    public int undo() {
        if (history.many == 0) {
            return NOT_POSSIBLE;
        }
        history.restoreTo(now);
        return history.many;
    }

    // ---- texts

    public int type(int character) {
        if (!isIn(character, 32, 126)) {
            return INVALID_ARGUMENT;
        }
        if (orders.length >= MOST_SIGNS) {
            return LIMIT_REACHED;
        }
        orders.append(character);
        return orders.length;
    }

    public int clearText() {
        int before = orders.length;
        orders.length = 0;
        return before;
    }

    public int fault(int what) {
        if (!isIn(what, 0, 2)) {
            return INVALID_ARGUMENT;
        }
        trial.copyFrom(now);
        orders.doOn(trial);
        if (orders.reason == POSSIBLE) {
            return NOT_FOUND;
        }
        switch (what) {
            case 0: return orders.position;
            case 1: return orders.reason;
            default: return orders.cause;
        }
    }

    public int play() {
        trial.copyFrom(now);
        int done = orders.doOn(trial);
        if (orders.reason != POSSIBLE) {
            return NOT_POSSIBLE;
        }
        history.record(now);
        now.copyFrom(trial);
        return done;
    }

    // ---- small things

    private static boolean isIn(int value, int least, int greatest) {
        return value >= least && value <= greatest;
    }

    private static boolean isPoint(int x, int y) {
        return isIn(x, 0, LAST_POINT) && isIn(y, 0, LAST_POINT);
    }

    private static int asBit(boolean is) {
        return is ? 1 : 0;
    }

    private static boolean holderTakes(int holder, int kind) {
        if (holder == FINE_HOLDER) {
            return kind == FINE;
        }
        return holder != BROAD_HOLDER || kind == BROAD;
    }

    private static int distance(int x, int y, int x2, int y2) {
        return Math.max(Math.abs(x - x2), Math.abs(y - y2));
    }

    private static void copy(int[] from, int[] to) {
        System.arraycopy(from, 0, to, 0, Math.min(from.length, to.length));
    }

    // Shades lie above 0 and up to 1, where doubling is exact; LANGUAGE.md leaves no
    // library function for the bits.
    private static int bitsOf(float shade) {
        float mantissa = shade;
        int exponent = 127;
        for (int i = 0; i < 126 && mantissa < 1.0f; i++) {
            mantissa = mantissa * 2.0f;
            exponent--;
        }
        return (exponent << 23) | (int) ((mantissa - 1.0f) * 8388608.0f);
    }

    private static final class Pens {
        int many = 0;
        final int[] kind = new int[MOST_PENS];
        final int[] capacity = new int[MOST_PENS];
        // ten times the holder plus the slot
        final int[] place = new int[MOST_PENS];
        final int[] ink = new int[MOST_PENS];
        final int[] drawn = new int[MOST_PENS];
        final int[] idle = new int[MOST_PENS];
        // 1 on leave, otherwise 0
        final int[] away = new int[MOST_PENS];

        void copyFrom(Pens other) {
            many = other.many;
            copy(other.kind, kind);
            copy(other.capacity, capacity);
            copy(other.place, place);
            copy(other.ink, ink);
            copy(other.drawn, drawn);
            copy(other.idle, idle);
            copy(other.away, away);
        }

        boolean has(int pen) {
            return isIn(pen, 0, many - 1);
        }

        boolean isAway(int pen) {
            return away[pen] == 1;
        }

        boolean isPlaceOfAny(int wanted) {
            for (int pen = 0; pen < many; pen++) {
                if (place[pen] == wanted) {
                    return true;
                }
            }
            return false;
        }

        int add(int itsKind, int itsCapacity, int itsPlace) {
            int pen = many;
            kind[pen] = itsKind;
            capacity[pen] = itsCapacity;
            place[pen] = itsPlace;
            ink[pen] = itsCapacity;
            drawn[pen] = 0;
            idle[pen] = 0;
            away[pen] = 0;
            many++;
            return pen;
        }

        int howManyPresent() {
            int present = 0;
            for (int pen = 0; pen < many; pen++) {
                present += 1 - away[pen];
            }
            return present;
        }

        int leastDrawnBut(int left) {
            int least = NONE;
            for (int pen = 0; pen < many; pen++) {
                if (pen != left && !isAway(pen) && (least == NONE || drawn[pen] < least)) {
                    least = drawn[pen];
                }
            }
            return least;
        }

        int spreadOf(int[] lengths) {
            int least = NONE;
            int greatest = NONE;
            for (int pen = 0; pen < many && pen < lengths.length; pen++) {
                if (!isAway(pen)) {
                    least = least == NONE ? lengths[pen] : Math.min(least, lengths[pen]);
                    greatest = Math.max(greatest, lengths[pen]);
                }
            }
            return least == NONE ? NOT_FOUND : greatest - least;
        }
    }

    private static final class Lines {
        int many = 0;
        final int[] x = new int[MOST_LINES];
        final int[] y = new int[MOST_LINES];
        final int[] x2 = new int[MOST_LINES];
        final int[] y2 = new int[MOST_LINES];
        // Lines stay where they are, so these two are worked out once.
        final int[] length = new int[MOST_LINES];
        final int[] touchingSet = new int[MOST_LINES];
        // NONE of a line that is not drawn
        final int[] drawnBy = new int[MOST_LINES];
        final int[] doneAt = new int[MOST_LINES];
        final int[] dryAt = new int[MOST_LINES];
        final int[] inkAtBegin = new int[MOST_LINES];

        void copyFrom(Lines other) {
            many = other.many;
            copy(other.x, x);
            copy(other.y, y);
            copy(other.x2, x2);
            copy(other.y2, y2);
            copy(other.length, length);
            copy(other.touchingSet, touchingSet);
            copy(other.drawnBy, drawnBy);
            copy(other.doneAt, doneAt);
            copy(other.dryAt, dryAt);
            copy(other.inkAtBegin, inkAtBegin);
        }

        boolean has(int line) {
            return isIn(line, 0, many - 1);
        }

        boolean isDrawn(int line) {
            return drawnBy[line] != NONE;
        }

        int add(int firstX, int firstY, int secondX, int secondY) {
            int line = many;
            x[line] = firstX;
            y[line] = firstY;
            x2[line] = secondX;
            y2[line] = secondY;
            length[line] = distance(firstX, firstY, secondX, secondY);
            drawnBy[line] = NONE;
            noteTouching(line);
            many++;
            return line;
        }

        private void noteTouching(int line) {
            touchingSet[line] = 0;
            for (int other = 0; other < line; other++) {
                if (meet(line, other)) {
                    touchingSet[line] |= 1 << other;
                    touchingSet[other] |= 1 << line;
                }
            }
        }

        boolean isTouching(int one, int other) {
            return (touchingSet[one] & (1 << other)) != 0;
        }

        int beginX(int line, int way) {
            return way == 0 ? x[line] : x2[line];
        }

        int beginY(int line, int way) {
            return way == 0 ? y[line] : y2[line];
        }

        int lengthNotDrawn() {
            int sum = 0;
            for (int line = 0; line < many; line++) {
                sum += isDrawn(line) ? 0 : length[line];
            }
            return sum;
        }

        int howManyDrawn() {
            int drawn = 0;
            for (int line = 0; line < many; line++) {
                drawn += asBit(isDrawn(line));
            }
            return drawn;
        }

        int howManyDrawnBy(int pen) {
            int drawn = 0;
            for (int line = 0; line < many; line++) {
                drawn += asBit(drawnBy[line] == pen);
            }
            return drawn;
        }

        // The spans keep lines apart that lie on one straight line but do not meet,
        // which no look at sides can tell.
        private boolean meet(int one, int other) {
            return spansMeet(x[one], x2[one], x[other], x2[other])
                && spansMeet(y[one], y2[one], y[other], y2[other])
                && reachesAcross(one, other)
                && reachesAcross(other, one);
        }

        private static boolean spansMeet(int a, int b, int c, int d) {
            return Math.max(Math.min(a, b), Math.min(c, d)) <= Math.min(Math.max(a, b), Math.max(c, d));
        }

        private boolean reachesAcross(int line, int across) {
            int dx = x2[across] - x[across];
            int dy = y2[across] - y[across];
            int side = dx * (y[line] - y[across]) - dy * (x[line] - x[across]);
            int side2 = dx * (y2[line] - y[across]) - dy * (x2[line] - x[across]);
            return side * side2 <= 0;
        }

        private boolean isDrawnWithEnd(int line, int atX, int atY) {
            return isDrawn(line)
                && ((x[line] == atX && y[line] == atY) || (x2[line] == atX && y2[line] == atY));
        }

        private int firstDrawnWithEnd(int atX, int atY) {
            for (int line = 0; line < many; line++) {
                if (isDrawnWithEnd(line, atX, atY)) {
                    return line;
                }
            }
            return NONE;
        }

        private boolean endsThereByAnother(int atX, int atY, int pen) {
            for (int line = 0; line < many; line++) {
                if (isDrawnWithEnd(line, atX, atY) && drawnBy[line] != pen) {
                    return true;
                }
            }
            return false;
        }

        private boolean isSeam(int atX, int atY) {
            int first = firstDrawnWithEnd(atX, atY);
            return first != NONE && endsThereByAnother(atX, atY, drawnBy[first]);
        }

        // A point is counted at the first drawn line that ends there, so that it is counted once.
        int seamsFirstMetAt(int line) {
            return asBit(firstDrawnWithEnd(x[line], y[line]) == line && isSeam(x[line], y[line]))
                + asBit(firstDrawnWithEnd(x2[line], y2[line]) == line && isSeam(x2[line], y2[line]));
        }

        boolean wouldBecomeSeam(int atX, int atY, int pen) {
            return !isSeam(atX, atY) && endsThereByAnother(atX, atY, pen);
        }
    }

    private static final class Plotter {
        final int[] settings = FIRST_VALUES.clone();
        final Pens pens = new Pens();
        final Lines lines = new Lines();
        int time = 0;
        // the pen in the hand, or NONE
        int hand = NONE;
        int x = 0;
        int y = 0;
        int swaps = 0;
        int travelled = 0;

        void copyFrom(Plotter other) {
            copy(other.settings, settings);
            pens.copyFrom(other.pens);
            lines.copyFrom(other.lines);
            time = other.time;
            hand = other.hand;
            x = other.x;
            y = other.y;
            swaps = other.swaps;
            travelled = other.travelled;
        }

        boolean isStriking(int pen) {
            return !pens.isAway(pen) && pens.drawn[pen] - pens.leastDrawnBut(NONE) > settings[BOUND];
        }

        boolean isClogged(int pen) {
            return pens.idle[pen] > settings[IDLE_LIMIT];
        }

        boolean isWet(int line) {
            return lines.isDrawn(line) && time < lines.dryAt[line];
        }

        int howManyWet() {
            int wet = 0;
            for (int line = 0; line < lines.many; line++) {
                wet += asBit(isWet(line));
            }
            return wet;
        }

        float shadeOf(int line) {
            int pen = lines.drawnBy[line];
            int capacity = pens.has(pen) ? pens.capacity[pen] : 0;
            return capacity == 0 ? 0.0f : (float) lines.inkAtBegin[line] / (float) capacity;
        }

        int inkFor(int pen, int line) {
            return pens.kind[pen] == BROAD ? 2 * lines.length[line] : lines.length[line];
        }

        int travelTo(int line, int way) {
            return distance(x, y, lines.beginX(line, way), lines.beginY(line, way));
        }

        // From this time on no line that another pen drew and that touches this one is wet.
        int dryTimeFor(int line) {
            int dry = 0;
            for (int other = 0; other < lines.many; other++) {
                if (lines.isDrawn(other) && lines.drawnBy[other] != hand && lines.isTouching(line, other)) {
                    dry = Math.max(dry, lines.dryAt[other]);
                }
            }
            return dry;
        }

        int reasonAgainst(int line, int way, int waited) {
            if (!pens.has(hand)) {
                return 1;
            }
            if (lines.isDrawn(line)) {
                return 2;
            }
            if (isStriking(hand)) {
                return 3;
            }
            if (pens.ink[hand] < inkFor(hand, line)) {
                return 4;
            }
            int idleThen = waited + travelTo(line, way);
            if (pens.idle[hand] + idleThen > settings[IDLE_LIMIT]) {
                return 5;
            }
            if (time + idleThen < dryTimeFor(line)) {
                return 6;
            }
            if (time + idleThen + lines.length[line] > LAST_TIME) {
                return 7;
            }
            return POSSIBLE;
        }

        void drawByHand(int line, int way) {
            int travel = travelTo(line, way);
            int length = lines.length[line];
            time += travel + length;
            travelled += travel;
            x = lines.beginX(line, 1 - way);
            y = lines.beginY(line, 1 - way);
            lines.drawnBy[line] = hand;
            lines.doneAt[line] = time;
            lines.dryAt[line] = time + settings[WET_TICKS];
            lines.inkAtBegin[line] = pens.ink[hand];
            pens.ink[hand] -= inkFor(hand, line);
            pens.drawn[hand] += length;
            pens.idle[hand] = 0;
        }

        void passIdly(int ticks) {
            time += ticks;
            if (pens.has(hand)) {
                pens.idle[hand] += ticks;
            }
        }

        private int errorOfPassing(int ticks) {
            return time + ticks > LAST_TIME ? LIMIT_REACHED : POSSIBLE;
        }

        int errorOfTaking(int pen) {
            if (pen == hand || pens.isAway(pen)) {
                return NOT_POSSIBLE;
            }
            return errorOfPassing(settings[SWAP_TICKS]);
        }

        int errorOfGoingHome() {
            return hand == NONE ? NOT_POSSIBLE : errorOfPassing(settings[SWAP_TICKS]);
        }

        int errorOfWaiting(int ticks) {
            return isIn(ticks, 1, LONGEST_WAIT) ? errorOfPassing(ticks) : INVALID_ARGUMENT;
        }

        int errorOfCleaning() {
            return hand == NONE ? NOT_POSSIBLE : errorOfPassing(settings[CLEANING_TICKS]);
        }

        int swapTo(int pen) {
            int before = hand;
            passIdly(settings[SWAP_TICKS]);
            hand = pen;
            swaps++;
            return before;
        }

        int cleanHand() {
            if (!pens.has(hand)) {
                return NOT_POSSIBLE;
            }
            int before = pens.idle[hand];
            passIdly(settings[CLEANING_TICKS]);
            pens.idle[hand] = 0;
            return before;
        }
    }

    private static final class History {
        private final Plotter[] states = new Plotter[MOST_STATES];
        private int next = 0;
        int many = 0;

        // The states go round in the array: the newest one takes the place of the oldest one.
        void record(Plotter now) {
            Plotter state = states[next];
            if (state == null) {
                state = new Plotter();
                states[next] = state;
            }
            state.copyFrom(now);
            next = (next + 1) % MOST_STATES;
            many = Math.min(many + 1, MOST_STATES);
        }

        void restoreTo(Plotter now) {
            int latest = (next + MOST_STATES - 1) % MOST_STATES;
            Plotter state = states[latest];
            if (many == 0 || state == null) {
                return;
            }
            now.copyFrom(state);
            next = latest;
            many--;
        }
    }

    private static final class FairPlan {
        // NONE of a line to which no pen is given
        final int[] penFor = new int[MOST_LINES];
        final int[] load = new int[MOST_PENS];

        void make(Pens pens, Lines lines) {
            for (int line = 0; line < MOST_LINES; line++) {
                penFor[line] = NONE;
            }
            copy(pens.drawn, load);
            for (int i = 0; i < lines.many; i++) {
                int line = longestLeft(lines);
                int pen = leastLoaded(pens);
                if (line == NONE || pen == NONE) {
                    return;
                }
                penFor[line] = pen;
                load[pen] += lines.length[line];
            }
        }

        private int longestLeft(Lines lines) {
            int longest = NONE;
            for (int line = 0; line < lines.many; line++) {
                boolean isLeft = !lines.isDrawn(line) && penFor[line] == NONE;
                if (isLeft && (longest == NONE || lines.length[line] > lines.length[longest])) {
                    longest = line;
                }
            }
            return longest;
        }

        private int leastLoaded(Pens pens) {
            int least = NONE;
            for (int pen = 0; pen < pens.many; pen++) {
                if (!pens.isAway(pen) && (least == NONE || load[pen] < load[least])) {
                    least = pen;
                }
            }
            return least;
        }
    }

    private static final class Route {
        int many = 0;
        final int[] line = new int[MOST_LINES];
        final int[] way = new int[MOST_LINES];
        final int[] ticks = new int[MOST_LINES];
        private final boolean[] isOnIt = new boolean[MOST_LINES];
        private int x = 0;
        private int y = 0;

        void make(Plotter plotter, FairPlan plan) {
            many = 0;
            x = plotter.x;
            y = plotter.y;
            for (int i = 0; i < MOST_LINES; i++) {
                isOnIt[i] = false;
            }
            int soFar = 0;
            for (int i = 0; i < plotter.lines.many; i++) {
                int nearest = nearestLeft(plotter, plan);
                if (nearest == NONE) {
                    return;
                }
                soFar += goAlong(plotter.lines, nearest);
                ticks[i] = soFar;
            }
        }

        private int nearestLeft(Plotter plotter, FairPlan plan) {
            int nearest = NONE;
            int least = 0;
            for (int i = 0; i < plotter.lines.many; i++) {
                if (plan.penFor[i] != plotter.hand || isOnIt[i]) {
                    continue;
                }
                int away = Math.min(travelTo(plotter.lines, i, 0), travelTo(plotter.lines, i, 1));
                if (nearest == NONE || away < least) {
                    nearest = i;
                    least = away;
                }
            }
            return nearest;
        }

        private int travelTo(Lines lines, int wanted, int itsWay) {
            return distance(x, y, lines.beginX(wanted, itsWay), lines.beginY(wanted, itsWay));
        }

        private int goAlong(Lines lines, int next) {
            int itsWay = travelTo(lines, next, 1) < travelTo(lines, next, 0) ? 1 : 0;
            int needed = travelTo(lines, next, itsWay) + lines.length[next];
            line[many] = next;
            way[many] = itsWay;
            many++;
            isOnIt[next] = true;
            x = lines.beginX(next, 1 - itsWay);
            y = lines.beginY(next, 1 - itsWay);
            return needed;
        }
    }

    private static final class Orders {
        private static final int FORM = 1;
        private static final int NO_SUCH = 2;
        private static final int OTHERWISE = 3;

        int length = 0;
        private final int[] signs = new int[MOST_SIGNS];
        // what the latest run found: the reason is POSSIBLE if there was no fault
        int position = 0;
        int reason = POSSIBLE;
        int cause = NOT_FOUND;

        void append(int sign) {
            if (length < MOST_SIGNS) {
                signs[length] = sign;
                length++;
            }
        }

        int doOn(Plotter plotter) {
            position = 0;
            reason = POSSIBLE;
            cause = NOT_FOUND;
            for (int done = 0; done < MOST_SIGNS; done++) {
                if (position >= length) {
                    return done;
                }
                int fitting = fittingSigns();
                if (!isClosedBehind(fitting)) {
                    reason = FORM;
                    cause = fitting;
                    return done;
                }
                reason = reasonOfDoing(plotter, signs[position], numberOf(fitting));
                if (reason != POSSIBLE) {
                    return done;
                }
                position += fitting + 1;
            }
            return MOST_SIGNS;
        }

        private static boolean isWithNumber(int letter) {
            return letter == 'p' || letter == 'd' || letter == 'r' || letter == 'w';
        }

        // How many signs of the order at the position are of its form, but for its ";".
        private int fittingSigns() {
            int letter = signs[position];
            if (letter == 'h' || letter == 'c') {
                return 1;
            }
            if (!isWithNumber(letter)) {
                return 0;
            }
            int digits = 0;
            while (digits < MOST_DIGITS && isDigitAt(position + 1 + digits)) {
                digits++;
            }
            return 1 + digits;
        }

        private boolean isDigitAt(int at) {
            return at < length && isIn(signs[at], '0', '9');
        }

        private boolean isClosedBehind(int fitting) {
            int needed = isWithNumber(signs[position]) ? 2 : 1;
            int end = position + fitting;
            return fitting >= needed && end < length && signs[end] == ';';
        }

        private int numberOf(int fitting) {
            int number = 0;
            for (int at = position + 1; at < position + fitting; at++) {
                number = 10 * number + signs[at] - '0';
            }
            return number;
        }

        private int reasonOfDoing(Plotter plotter, int letter, int number) {
            switch (letter) {
                case 'p': return takeIn(plotter, number);
                case 'd': return drawIn(plotter, number, 0);
                case 'r': return drawIn(plotter, number, 1);
                case 'h': return goHomeIn(plotter);
                case 'w': return waitIn(plotter, number);
                default: return cleanIn(plotter);
            }
        }

        private static int takeIn(Plotter plotter, int pen) {
            if (!plotter.pens.has(pen)) {
                return NO_SUCH;
            }
            if (plotter.errorOfTaking(pen) != POSSIBLE) {
                return OTHERWISE;
            }
            plotter.swapTo(pen);
            return POSSIBLE;
        }

        private int drawIn(Plotter plotter, int line, int way) {
            if (!plotter.lines.has(line)) {
                return NO_SUCH;
            }
            int why = plotter.reasonAgainst(line, way, 0);
            if (why != POSSIBLE) {
                cause = why;
                return OTHERWISE;
            }
            plotter.drawByHand(line, way);
            return POSSIBLE;
        }

        private static int goHomeIn(Plotter plotter) {
            if (plotter.errorOfGoingHome() != POSSIBLE) {
                return OTHERWISE;
            }
            plotter.swapTo(NONE);
            return POSSIBLE;
        }

        private static int waitIn(Plotter plotter, int ticks) {
            if (plotter.errorOfWaiting(ticks) != POSSIBLE) {
                return OTHERWISE;
            }
            plotter.passIdly(ticks);
            return POSSIBLE;
        }

        private static int cleanIn(Plotter plotter) {
            if (plotter.errorOfCleaning() != POSSIBLE) {
                return OTHERWISE;
            }
            plotter.cleanHand();
            return POSSIBLE;
        }
    }
}
