/** The sentences of promises 9 to 16, each at its bounds: the hand. */
public final class BoundsHandTest {
    private static final String OUT_OF_RANGE = "INVALID_ARGUMENT if an argument is out of range";
    private static final String LATE = "LIMIT_REACHED if the time would be above 100000";
    private static final String TWO_PENS = """
        pen 0 100 0 0 -> 0
        pen 0 100 0 1 -> 1
        """;
    private static final String CORNER = TWO_PENS + """
        line 0 0 10 0 -> 0
        line 10 0 10 5 -> 1
        """;

    public static void main(String[] args) {
        take();
        home();
        draw();
        erase();
        waits();
        clean();
        whyNot();
        waitFor();
        Script.close();
    }

    private static void take() {
        Sentences promise = new Sentences("Promise 9");
        promise.hold("`pen`: number of the pen", "take 0 -> INVALID\n" + TWO_PENS + """
            outside 0 1 take *
            take 1 -> 0
            take 0 -> 2
            """);
        promise.hold("Takes a pen into the hand; a pen that was there goes home. This is a swap", TWO_PENS + """
            take 0 -> 0
            count 4 -> 5
            count 5 -> 0
            count 9 -> 1
            waits 2 -> 7
            take 1 -> 1
            count 4 -> 12
            count 5 -> 1
            count 9 -> 2
            penOf 0 6 -> 0
            penOf 0 4 -> 7
            penOf 1 6 -> 1
            penOf 1 4 -> 0
            """);
        promise.hold("Returns 1 plus the number of the pen that went home, or 0 if none did", """
            pen 0 10 0 0 -> 0
            pen 0 10 0 1 -> 1
            pen 0 10 2 0 -> 2
            pen 0 10 2 1 -> 3
            pen 1 10 1 0 -> 4
            take 4 -> 0
            take 0 -> 5
            take 4 -> 1
            home -> 4
            take 1 -> 0
            """);
        promise.hold("INVALID_ARGUMENT; NOT_POSSIBLE if it is in the hand or on leave", TWO_PENS + """
            take 0 -> 0
            take 0 -> IMPOSSIBLE
            leave 1 1 -> 1
            take 1 -> IMPOSSIBLE
            take 2 -> INVALID
            leave 1 0 -> 2
            take 1 -> 1
            take 1 -> IMPOSSIBLE
            """);
        promise.hold(LATE, TWO_PENS + """
            till 99990
            leave 1 1 -> 1
            take 0 -> 0
            waits 1 -> 99996
            set 3 4 -> 5
            leave 1 0 -> 2
            take 1 -> 1
            count 4 -> 100000
            take 0 -> LIMIT
            take 1 -> IMPOSSIBLE           # rather than the limit
            take 2 -> INVALID
            leave 0 1 -> 1
            take 0 -> IMPOSSIBLE
            leave 0 0 -> 2
            set 3 0 -> 4
            take 0 -> 2                    # it takes no time
            """);
        promise.hold(LATE, TWO_PENS + """
            till 99995
            take 0 -> 0
            undo -> 3
            waits 1 -> 99996
            take 0 -> LIMIT
            count 5 -> MISSING
            count 9 -> 0
            """);
        promise.close();
    }

    private static void home() {
        Sentences promise = new Sentences("Promise 10");
        promise.hold("The pen in the hand goes home. This is a swap", TWO_PENS + """
            take 1 -> 0
            waits 2 -> 7
            home -> 1
            count 4 -> 12
            count 5 -> MISSING
            count 9 -> 2
            penOf 1 6 -> 0
            penOf 1 4 -> 7
            """);
        promise.hold("Returns its number", TWO_PENS + "take 1 -> 0\nhome -> 1\ntake 0 -> 0\nhome -> 0\n");
        promise.hold("NOT_POSSIBLE if there is none in the hand", """
            home -> IMPOSSIBLE
            """ + TWO_PENS + """
            home -> IMPOSSIBLE
            take 0 -> 0
            home -> 0
            home -> IMPOSSIBLE
            count 9 -> 2
            """);
        promise.hold(LATE, TWO_PENS + """
            till 99990
            home -> IMPOSSIBLE
            take 0 -> 0
            home -> 0
            count 4 -> 100000
            home -> IMPOSSIBLE             # rather than the limit
            undo -> 3
            waits 1 -> 99996
            home -> LIMIT
            count 5 -> 0
            set 3 4 -> 5
            home -> 0
            undo -> 3
            waits 4 -> 100000
            home -> LIMIT
            set 3 0 -> 4
            home -> 0
            """);
        promise.close();
    }

    private static void draw() {
        Sentences promise = new Sentences("Promise 11");
        promise.hold("`line`: number of the line", "draw 0 0 -> INVALID\n" + CORNER + """
            take 0 -> 0
            outside 0 1 draw * 0
            outside 0 1 draw * 1
            draw 1 0 -> 20
            draw 0 1 -> 35
            """);
        promise.hold("`way`: 0: from its first end; 1: from its second end", CORNER + """
            take 0 -> 0
            outside 0 1 draw 0 *
            draw 0 0 -> 15
            count 6 -> 10
            undo -> 3
            draw 0 1 -> 25
            count 6 -> 0
            """);
        promise.hold("Draws a line", CORNER + """
            take 0 -> 0
            draw 0 0 -> 15
            lineOf 0 5 -> 1
            lineOf 1 5 -> 0
            lineOf 0 6 -> 0
            penOf 0 2 -> 90
            penOf 0 3 -> 10
            penOf 0 10 -> 1
            count 2 -> 1
            """);
        promise.hold("Returns the time then; " + OUT_OF_RANGE, CORNER + """
            draw 0 2 -> INVALID            # and no pen in the hand
            draw 2 0 -> INVALID
            take 0 -> 0
            draw 0 0 -> 15
            draw 0 -1 -> INVALID           # and drawn
            count 4 -> 15
            draw 1 0 -> 20
            count 4 -> 20
            """);
        holdImpossibleDraws(promise);
        promise.close();
    }

    private static void holdImpossibleDraws(Sentences promise) {
        promise.hold("NOT_POSSIBLE if it cannot be drawn now", CORNER + """
            draw 0 0 -> IMPOSSIBLE         # no pen in the hand
            take 0 -> 0
            draw 0 0 -> 15
            draw 0 0 -> IMPOSSIBLE         # drawn
            draw 0 1 -> IMPOSSIBLE
            set 0 9 -> 60
            draw 1 0 -> IMPOSSIBLE         # it strikes
            set 0 10 -> 9
            draw 1 0 -> 20
            undo -> 3
            take 1 -> 1
            draw 1 0 -> IMPOSSIBLE         # wet till 25
            waits 4 -> 24
            draw 1 0 -> IMPOSSIBLE
            undo -> 3
            waits 5 -> 25
            draw 1 0 -> 30
            """);
        promise.hold("NOT_POSSIBLE if it cannot be drawn now", """
            pen 0 10 0 0 -> 0
            line 1 0 10 0 -> 0
            line 10 0 10 2 -> 1
            line 10 0 10 1 -> 2
            take 0 -> 0
            waits 40 -> 45
            draw 0 0 -> IMPOSSIBLE         # clogged when the hand is there
            undo -> 3
            waits 39 -> 44
            draw 0 1 -> IMPOSSIBLE
            draw 0 0 -> 54
            draw 1 0 -> IMPOSSIBLE         # 2 of 1 ink
            draw 2 0 -> 55
            penOf 0 2 -> 0
            """);
        promise.hold("NOT_POSSIBLE if it cannot be drawn now", CORNER + """
            till 99985
            take 0 -> 0
            draw 0 1 -> IMPOSSIBLE         # 10 there and 10 along
            draw 0 0 -> 100000
            draw 1 0 -> IMPOSSIBLE
            undo -> 3
            waits 1 -> 99991
            draw 0 0 -> IMPOSSIBLE
            count 4 -> 99991
            """);
    }

    private static void erase() {
        Sentences promise = new Sentences("Promise 12");
        promise.hold("`line`: number of the line", "erase 0 -> INVALID\n" + CORNER + """
            outside 0 1 erase *
            take 1 -> 0
            draw 0 0 -> 15
            draw 1 0 -> 20
            outside 0 1 erase *
            erase 1 -> 1
            erase 0 -> 1
            """);
        promise.hold("Erases a line, which is not drawn then; the drawn length and the ink of its pen stay", CORNER + """
            take 0 -> 0
            draw 0 0 -> 15
            erase 0 -> 0
            lineOf 0 5 -> 0
            lineOf 0 8 -> 0
            penOf 0 2 -> 90
            penOf 0 3 -> 10
            penOf 0 10 -> 0
            count 2 -> 0
            count 3 -> 0
            count 4 -> 15                  # it takes no time
            count 6 -> 10
            count 8 -> 15
            draw 0 1 -> 25                 # it can be drawn again
            penOf 0 2 -> 80
            penOf 0 3 -> 20
            """);
        promise.hold("Returns the pen by which it was drawn", CORNER + """
            take 1 -> 0
            draw 0 0 -> 15
            take 0 -> 2
            leave 1 1 -> 1
            erase 0 -> 1                   # whatever pen is in the hand
            """);
        promise.hold("INVALID_ARGUMENT; NOT_POSSIBLE if it is not drawn", CORNER + """
            erase 0 -> IMPOSSIBLE
            erase 2 -> INVALID
            take 0 -> 0
            draw 0 0 -> 15
            erase 1 -> IMPOSSIBLE
            erase 0 -> 0
            erase 0 -> IMPOSSIBLE
            """);
        promise.close();
    }

    private static void waits() {
        Sentences promise = new Sentences("Promise 13");
        promise.hold("`ticks`: 1 to 200", """
            outside 1 200 waits *
            waits 1 -> 1
            waits 200 -> 201
            """);
        promise.hold("Waits", TWO_PENS + """
            waits 3 -> 3
            penOf 0 4 -> 0
            take 0 -> 0
            waits 1 -> 9
            penOf 0 4 -> 1
            waits 200 -> 209
            penOf 0 4 -> 201
            penOf 1 4 -> 0
            count 6 -> 0
            count 10 -> 0
            """);
        promise.hold("Returns the time then", "waits 7 -> 7\ncount 4 -> 7\nwaits 8 -> 15\ncount 4 -> 15\n");
        promise.hold("INVALID_ARGUMENT if ticks is out of range", """
            waits 0 -> INVALID
            waits 201 -> INVALID
            waits -5 -> INVALID
            till 100000
            waits 0 -> INVALID
            waits 201 -> INVALID           # rather than the limit
            waits 2147483647 -> INVALID
            """);
        promise.hold("LIMIT_REACHED if it would be above 100000", """
            till 99800
            waits 200 -> 100000
            waits 1 -> LIMIT
            waits 200 -> LIMIT
            undo -> 3
            waits 1 -> 99801
            waits 200 -> LIMIT
            count 4 -> 99801
            waits 199 -> 100000
            """);
        promise.close();
    }

    private static void clean() {
        Sentences promise = new Sentences("Promise 14");
        promise.hold("Cleans the pen in the hand", TWO_PENS + """
            take 1 -> 0
            waits 41 -> 46
            home -> 1
            take 0 -> 0
            waits 50 -> 106
            clean -> 50
            count 4 -> 110
            penOf 0 4 -> 0
            penOf 0 9 -> 0
            penOf 1 4 -> 46                # the other one stays as it is
            penOf 1 9 -> 1
            """);
        promise.hold("Returns the idle ticks that it had before", TWO_PENS + """
            take 0 -> 0
            clean -> 0
            waits 1 -> 10
            clean -> 1
            set 4 50 -> 4
            waits 200 -> 214
            clean -> 200
            clean -> 0                     # those of a cleaning do not stay
            """);
        promise.hold("NOT_POSSIBLE if there is none in the hand", """
            clean -> IMPOSSIBLE
            """ + TWO_PENS + """
            clean -> IMPOSSIBLE
            take 0 -> 0
            clean -> 0
            home -> 0
            clean -> IMPOSSIBLE
            """);
        promise.hold(LATE, TWO_PENS + """
            till 99991
            clean -> IMPOSSIBLE
            take 0 -> 0
            clean -> 0
            count 4 -> 100000
            clean -> LIMIT
            set 4 0 -> 4
            clean -> 0
            undo -> 3
            undo -> 2
            undo -> 1
            waits 1 -> 99997
            clean -> LIMIT
            penOf 0 4 -> 1
            count 4 -> 99997
            set 4 3 -> 4
            clean -> 1
            set 3 0 -> 5
            home -> 0
            clean -> IMPOSSIBLE            # rather than the limit
            """);
        promise.close();
    }

    private static void whyNot() {
        Sentences promise = new Sentences("Promise 15");
        promise.hold("`line`: number of the line", "whyNot 0 0 -> INVALID\n" + CORNER + """
            outside 0 1 whyNot * 0
            outside 0 1 whyNot * 1
            whyNot 0 0 -> 1
            whyNot 1 0 -> 1
            """);
        promise.hold("`way`: 0 or 1", CORNER + """
            outside 0 1 whyNot 0 *
            set 1 9 -> 40
            take 0 -> 0
            whyNot 0 0 -> 0
            whyNot 0 1 -> 5                # the hand is not at its second end
            outside 0 1 whyNot 0 *
            """);
        promise.hold("Tells why a line cannot be drawn now", CORNER + """
            whyNot 0 0 -> 1
            take 0 -> 0
            whyNot 0 0 -> 0
            draw 0 0 -> 15
            whyNot 0 0 -> 2
            """);
        promise.hold("Returns the reason, 1 to 7, or 0 if it can be drawn", """
            pen 0 15 0 0 -> 0
            pen 0 100 0 1 -> 1
            line 0 0 10 0 -> 0
            line 10 0 10 5 -> 1
            line 10 0 10 6 -> 2
            whyNot 0 0 -> 1
            take 0 -> 0
            draw 0 0 -> 15
            whyNot 0 0 -> 2
            set 0 9 -> 60
            whyNot 1 0 -> 3
            set 0 10 -> 9
            whyNot 1 0 -> 0
            whyNot 2 0 -> 4
            waits 41 -> 56
            whyNot 1 0 -> 5
            refill 0 -> 10
            clean -> 41
            set 2 100 -> 10
            draw 2 0 -> 66                 # wet till 166
            take 1 -> 1
            whyNot 1 0 -> 6
            erase 2 -> 0
            erase 0 -> 0
            whyNot 1 0 -> 0
            till 99990
            whyNot 1 0 -> 5
            clean -> 99919
            whyNot 1 0 -> 7
            """);
        promise.hold(OUT_OF_RANGE, CORNER + """
            whyNot 2 2 -> INVALID
            whyNot 0 2 -> INVALID          # and no pen in the hand
            whyNot 2 0 -> INVALID
            take 0 -> 0
            draw 0 0 -> 15
            whyNot 0 -1 -> INVALID         # and drawn
            """);
        promise.close();
    }

    private static void waitFor() {
        Sentences promise = new Sentences("Promise 16");
        promise.hold("`line`: number of the line", "waitFor 0 0 -> INVALID\n" + CORNER + """
            outside 0 1 waitFor * 0
            take 0 -> 0
            outside 0 1 waitFor * 1
            waitFor 0 0 -> 0
            waitFor 1 0 -> 0
            """);
        promise.hold("`way`: 0 or 1", CORNER + """
            take 0 -> 0
            outside 0 1 waitFor 0 *
            draw 0 0 -> 15
            take 1 -> 1
            waitFor 1 0 -> 5               # wet till 25
            waitFor 1 1 -> 0               # 5 ticks of travel
            """);
        promise.hold(OUT_OF_RANGE, CORNER + """
            waitFor 0 2 -> INVALID         # and no pen in the hand
            waitFor 2 0 -> INVALID
            waitFor 2 2 -> INVALID
            """);
        holdTicksToWait(promise);
        holdTicksAtTheEnd(promise);
        holdNoWaiting(promise);
        promise.close();
    }

    private static void holdTicksToWait(Sentences promise) {
        String ticks = "Tells how many ticks, 0 to 200, would have to be waited at least (by waits(), so that idle ticks "
            + "grow, too), so that a line can be drawn then";
        promise.hold(ticks, CORNER + """
            set 2 100 -> 10
            set 3 0 -> 5
            take 0 -> 0
            draw 0 0 -> 10                 # wet till 110
            waitFor 1 0 -> 0               # its own pen
            take 1 -> 1
            waitFor 1 0 -> MISSING
            set 1 99 -> 40
            waitFor 1 0 -> MISSING
            waitFor 1 1 -> MISSING         # 95 and 5 of travel
            set 1 100 -> 99
            waitFor 1 0 -> 100
            waitFor 1 1 -> 95
            waits 99 -> 109
            waitFor 1 0 -> 1
            waitFor 1 1 -> MISSING         # 104 idle ticks, when the hand is there
            draw 1 0 -> IMPOSSIBLE
            undo -> 3
            waits 100 -> 110
            waitFor 1 0 -> 0
            draw 1 0 -> 115
            """);
        promise.hold(ticks, CORNER + """
            set 2 100 -> 10
            set 3 0 -> 5
            set 1 100 -> 40
            take 0 -> 0
            draw 0 0 -> 10
            take 1 -> 1
            waits 1 -> 11
            clean -> 1
            waitFor 1 0 -> 95              # at 15
            waits 1 -> 16
            waitFor 1 0 -> 94
            waits 5 -> 21
            set 1 95 -> 100
            waitFor 1 0 -> 89              # 6 idle ticks already
            set 1 94 -> 95
            waitFor 1 0 -> MISSING
            """);
        promise.hold("Returns the ticks", """
            pen 0 100 0 0 -> 0
            pen 0 100 0 1 -> 1
            pen 0 100 2 0 -> 2
            line 0 0 10 0 -> 0
            line 10 1 0 1 -> 1
            line 0 2 0 0 -> 2
            line 3 2 3 9 -> 3
            set 2 30 -> 10
            take 0 -> 0
            draw 0 0 -> 15                 # wet till 45
            take 1 -> 1
            draw 1 0 -> 31                 # wet till 61
            take 2 -> 2
            waitFor 2 0 -> 24              # from 0, 1 at 36, for the later one
            waitFor 2 1 -> 24
            waitFor 3 0 -> 0               # it does not touch them
            erase 1 -> 1
            waitFor 2 1 -> 8               # for the earlier one
            """);
    }

    private static void holdTicksAtTheEnd(Sentences promise) {
        String last = CORNER + "set 1 200 -> 40\nset 2 100 -> 10\n";
        promise.hold("NOT_FOUND if it cannot be drawn by waiting so long", last + """
            till 99880
            take 0 -> 0
            draw 0 0 -> 99895              # wet till 99995
            take 1 -> 1
            waitFor 1 0 -> 95
            waitFor 1 1 -> 90
            waits 95 -> 99995
            draw 1 0 -> 100000
            """);
        promise.hold("NOT_FOUND if it cannot be drawn by waiting so long", last + """
            till 99881
            take 0 -> 0
            draw 0 0 -> 99896
            take 1 -> 1
            waitFor 1 0 -> MISSING         # 1 too late
            waitFor 1 1 -> MISSING
            """);
    }

    private static void holdNoWaiting(Sentences promise) {
        promise.hold("NOT_FOUND if it cannot be drawn by waiting so long", """
            pen 0 15 0 0 -> 0
            pen 0 100 0 1 -> 1
            line 0 0 10 0 -> 0
            line 10 0 10 5 -> 1
            line 10 0 10 6 -> 2
            waitFor 0 0 -> MISSING         # no pen in the hand
            take 0 -> 0
            waitFor 0 0 -> 0
            draw 0 0 -> 15
            waitFor 0 0 -> MISSING         # drawn
            set 0 9 -> 60
            waitFor 1 0 -> MISSING         # it strikes
            set 0 10 -> 9
            waitFor 1 0 -> 0
            waitFor 2 0 -> MISSING         # too little ink
            waits 41 -> 56
            waitFor 1 0 -> MISSING         # clogged
            set 1 41 -> 40
            waitFor 1 0 -> 0
            till 99996
            clean -> 99981
            waitFor 1 0 -> MISSING         # too late
            """);
    }
}
