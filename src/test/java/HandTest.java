/** Promises 9 to 16: the hand. */
public final class HandTest {
    public static void main(String[] args) {
        swaps();
        draw();
        erase();
        waits();
        clean();
        whyNot();
        waitFor();
        Script.close();
    }

    private static void swaps() {
        Script.run("promise 9", """
            take 0 -> INVALID
            pen 0 100 0 0 -> 0
            pen 1 100 1 0 -> 1
            take 2 -> INVALID
            take -1 -> INVALID
            take 2147483647 -> INVALID
            take 0 -> 0
            count 4 -> 5
            count 5 -> 0
            count 9 -> 1
            take 0 -> IMPOSSIBLE
            waits 3 -> 8
            take 1 -> 1
            count 5 -> 1
            penOf 0 4 -> 8                 # 3 waited and 5 of the swap
            penOf 1 4 -> 0
            set 3 50 -> 5
            take 0 -> 2
            penOf 1 4 -> 50
            penOf 0 4 -> 8
            count 4 -> 63
            leave 1 1 -> 1
            take 1 -> IMPOSSIBLE
            count 9 -> 3
            undo -> 3
            undo -> 2
            count 5 -> 1
            count 9 -> 2
            count 4 -> 13
            """);
        Script.run("promise 9: the time", """
            pen 0 100 0 0 -> 0
            pen 0 100 0 1 -> 1
            till 99800
            waits 196 -> 99996
            take 0 -> LIMIT
            take 2 -> INVALID
            leave 1 1 -> 1
            take 1 -> IMPOSSIBLE           # rather than the limit
            set 3 4 -> 5
            take 0 -> 0
            count 4 -> 100000
            take 0 -> IMPOSSIBLE
            leave 1 0 -> 2
            take 1 -> LIMIT
            set 3 0 -> 4
            take 1 -> 1
            """);
        Script.run("promise 10", """
            home -> IMPOSSIBLE
            pen 0 100 0 0 -> 0
            pen 0 100 2 0 -> 1
            home -> IMPOSSIBLE
            line 4 0 9 0 -> 0
            take 1 -> 0
            draw 0 0 -> 14
            home -> 1
            home -> IMPOSSIBLE
            count 4 -> 19
            count 5 -> MISSING
            count 6 -> 9                   # the hand stays where it is
            count 9 -> 2
            penOf 1 4 -> 5
            penOf 1 6 -> 0
            undo -> 3
            count 5 -> 1
            count 9 -> 1
            penOf 1 4 -> 0
            """);
        Script.run("promise 10: the time", """
            pen 0 100 0 0 -> 0
            take 0 -> 0
            undo -> 1
            till 99800
            home -> IMPOSSIBLE
            take 0 -> 0
            waits 191 -> 99996
            home -> LIMIT
            set 3 4 -> 5
            home -> 0
            count 4 -> 100000
            home -> IMPOSSIBLE
            """);
    }

    private static void draw() {
        Script.run("promise 11", """
            draw 0 0 -> INVALID
            line 3 4 10 6 -> 0
            line 20 20 19 10 -> 1
            draw 0 0 -> IMPOSSIBLE
            draw 0 2 -> INVALID
            draw 0 -1 -> INVALID
            draw 2 0 -> INVALID
            draw -1 0 -> INVALID
            draw 2147483647 0 -> INVALID
            draw 0 -2147483648 -> INVALID
            pen 1 100 2 0 -> 0
            take 0 -> 0
            waits 6 -> 11
            draw 0 0 -> 22                 # 4 there, 7 along
            count 6 -> 10
            count 7 -> 6
            count 10 -> 4
            penOf 0 2 -> 86
            penOf 0 3 -> 7
            penOf 0 4 -> 0
            draw 0 0 -> IMPOSSIBLE
            draw 1 0 -> 46                 # 14 there, 10 along
            count 6 -> 19
            count 7 -> 10
            count 10 -> 18
            lineOf 1 7 -> 46
            lineOf 1 9 -> 86/100
            undo -> 3
            draw 1 1 -> 41                 # 9 there
            count 6 -> 20
            count 7 -> 20
            count 10 -> 13
            penOf 0 10 -> 2
            """);
        Script.run("promise 11: clogged at the begin", """
            pen 0 100 0 0 -> 0
            line 1 0 5 0 -> 0
            take 0 -> 0
            waits 40 -> 45
            draw 0 0 -> IMPOSSIBLE
            undo -> 3
            waits 39 -> 44
            draw 0 1 -> IMPOSSIBLE
            draw 0 0 -> 49                 # 40 idle ticks when the hand was there
            """);
    }

    private static void erase() {
        Script.run("promise 12", """
            erase 0 -> INVALID
            pen 0 100 0 0 -> 0
            pen 0 100 0 1 -> 1
            line 0 0 8 0 -> 0
            line 8 0 9 0 -> 1
            erase 0 -> IMPOSSIBLE
            erase 2 -> INVALID
            erase -1 -> INVALID
            erase 2147483647 -> INVALID
            take 1 -> 0
            draw 0 0 -> 13
            erase 0 -> 1
            erase 0 -> IMPOSSIBLE
            penOf 1 2 -> 92
            penOf 1 3 -> 8
            penOf 1 10 -> 0
            count 2 -> 0
            count 3 -> 0
            count 4 -> 13
            take 0 -> 2
            whyNot 1 0 -> 0                # what is not there is not wet
            undo -> 3
            undo -> 2
            lineOf 0 6 -> 1
            lineOf 0 7 -> 13
            lineOf 0 8 -> 1
            lineOf 0 9 -> 1/1
            """);
    }

    private static void waits() {
        Script.run("promise 13", """
            waits 0 -> INVALID
            waits -1 -> INVALID
            waits 201 -> INVALID
            waits 2147483647 -> INVALID
            waits -2147483648 -> INVALID
            waits 1 -> 1
            waits 200 -> 201
            pen 0 100 0 0 -> 0
            pen 0 100 0 1 -> 1
            waits 10 -> 211
            penOf 0 4 -> 0
            take 1 -> 0
            waits 10 -> 226
            penOf 1 4 -> 10
            penOf 0 4 -> 0
            undo -> 3
            penOf 1 4 -> 0
            count 4 -> 216
            """);
        Script.run("promise 13: the time", """
            till 99800
            waits 201 -> INVALID
            waits 1 -> 99801
            waits 200 -> LIMIT
            waits 199 -> 100000
            waits 1 -> LIMIT
            waits 0 -> INVALID
            count 4 -> 100000
            """);
    }

    private static void clean() {
        Script.run("promise 14", """
            clean -> IMPOSSIBLE
            pen 0 100 0 0 -> 0
            clean -> IMPOSSIBLE
            take 0 -> 0
            clean -> 0
            count 4 -> 9
            penOf 0 4 -> 0
            waits 50 -> 59
            penOf 0 9 -> 1
            clean -> 50
            count 4 -> 63
            penOf 0 4 -> 0
            penOf 0 9 -> 0
            undo -> 3
            penOf 0 4 -> 50
            set 4 0 -> 4
            clean -> 50
            count 4 -> 59
            home -> 0
            clean -> IMPOSSIBLE
            """);
        Script.run("promise 14: the time", """
            pen 0 100 0 0 -> 0
            till 99800
            clean -> IMPOSSIBLE
            take 0 -> 0
            waits 192 -> 99997
            clean -> LIMIT
            set 4 3 -> 4
            clean -> 192
            count 4 -> 100000
            """);
    }

    private static void whyNot() {
        Script.run("promise 15", """
            whyNot 0 0 -> INVALID
            pen 0 30 0 0 -> 0
            pen 1 300 1 0 -> 1
            line 0 0 20 0 -> 0
            line 20 0 20 11 -> 1
            line 20 5 20 15 -> 2
            line 0 40 0 45 -> 3
            line 21 0 25 0 -> 4
            whyNot 0 2 -> INVALID
            whyNot 0 -1 -> INVALID
            whyNot 5 0 -> INVALID
            whyNot -1 0 -> INVALID
            whyNot 2147483647 0 -> INVALID
            whyNot 0 0 -> 1
            take 0 -> 0
            whyNot 0 0 -> 0
            draw 0 0 -> 25
            home -> 0
            whyNot 0 0 -> 1                # rather than 2
            take 0 -> 0
            set 0 19 -> 60
            whyNot 0 1 -> 2                # rather than 3
            whyNot 1 0 -> 3                # rather than 4
            set 0 20 -> 19
            whyNot 1 0 -> 4
            whyNot 2 0 -> 0                # as much ink as it needs
            whyNot 2 1 -> 0
            waits 30 -> 65
            penOf 0 4 -> 35
            whyNot 2 0 -> 0                # 40 when the hand is there
            whyNot 2 1 -> 5
            waits 1 -> 66
            whyNot 2 0 -> 5
            whyNot 1 0 -> 4                # rather than 5
            clean -> 36
            set 2 50 -> 10
            draw 2 0 -> 85
            take 1 -> 1
            whyNot 1 0 -> 6
            whyNot 0 0 -> 2
            """);
        Script.run("promise 15: wet lines", """
            pen 0 300 0 0 -> 0
            pen 0 300 0 1 -> 1
            line 0 0 10 0 -> 0
            line 5 0 5 20 -> 1
            line 6 1 6 9 -> 2
            take 0 -> 0
            draw 0 0 -> 15
            whyNot 1 0 -> 0                # the pen that drew it
            take 1 -> 1
            count 4 -> 20
            whyNot 1 0 -> 0                # the hand is there at 25, when the line is dry
            line 10 0 10 4 -> 3
            whyNot 3 0 -> 6
            whyNot 2 0 -> 0                # it does not touch
            waits 4 -> 24
            whyNot 3 0 -> 6
            waits 1 -> 25
            whyNot 3 0 -> 0
            undo -> 3
            line 8 0 9 1 -> 4
            whyNot 4 0 -> 0
            set 1 5 -> 40
            whyNot 4 1 -> 0
            waits 1 -> 25
            waits 4 -> 29
            whyNot 3 0 -> 5
            """);
        Script.run("promise 15: the time", """
            pen 0 300 0 0 -> 0
            line 3 0 9 0 -> 0
            line 9 0 9 7 -> 1
            till 99800
            take 0 -> 0
            waits 186 -> 99991
            clean -> 186
            waits 1 -> 99996
            undo -> 3
            whyNot 0 0 -> 7
            undo -> 2
            undo -> 1
            waits 182 -> 99987
            clean -> 182
            whyNot 0 0 -> 0                # 99991 and 3 and 6
            whyNot 0 1 -> 7
            draw 0 0 -> 100000
            whyNot 1 0 -> 7
            draw 1 0 -> IMPOSSIBLE
            """);
        Script.run("promise 15: wet rather than late", """
            pen 0 300 0 0 -> 0
            pen 0 300 0 1 -> 1
            line 0 0 9 0 -> 0
            line 0 0 9 9 -> 1
            till 99800
            take 0 -> 0
            waits 180 -> 99985
            set 4 0 -> 4
            set 3 1 -> 5
            set 2 20 -> 10
            clean -> 180
            draw 0 1 -> IMPOSSIBLE
            whyNot 0 1 -> 7
            draw 0 0 -> 99994
            take 1 -> 1
            whyNot 1 0 -> 6
            """);
    }

    private static void waitFor() {
        Script.run("promise 16", """
            waitFor 0 0 -> INVALID
            pen 0 300 0 0 -> 0
            pen 0 300 0 1 -> 1
            line 0 0 10 0 -> 0
            line 5 0 5 20 -> 1
            line 10 0 10 9 -> 2
            line 40 0 50 0 -> 3
            waitFor 0 2 -> INVALID
            waitFor 0 -1 -> INVALID
            waitFor 4 0 -> INVALID
            waitFor -1 0 -> INVALID
            waitFor 2147483647 0 -> INVALID
            waitFor 0 0 -> MISSING         # no pen
            set 2 60 -> 10
            take 0 -> 0
            waitFor 0 0 -> 0
            draw 0 0 -> 15                 # wet till 75
            waitFor 0 0 -> MISSING         # drawn
            waitFor 2 0 -> 0
            take 1 -> 1                    # at 20
            waitFor 2 0 -> MISSING         # 55, but it clogs before
            set 1 55 -> 40
            waitFor 2 0 -> 55
            waitFor 2 1 -> 46              # 9 ticks of travel
            waitFor 1 0 -> 50
            waitFor 3 0 -> 0
            waits 54 -> 74
            waitFor 2 0 -> 1
            undo -> 3
            waits 55 -> 75
            waitFor 2 0 -> 0
            waitFor 2 1 -> MISSING         # it clogs on the way
            """);
        Script.run("promise 16: the longest of several", """
            pen 0 300 0 0 -> 0
            pen 0 300 0 1 -> 1
            pen 0 300 2 0 -> 2
            line 0 0 10 0 -> 0
            line 10 1 0 1 -> 1
            line 0 2 0 0 -> 2
            set 2 30 -> 10
            take 0 -> 0
            draw 0 0 -> 15                 # wet till 45
            take 1 -> 1
            draw 1 0 -> 31                 # wet till 61
            waitFor 2 0 -> 13
            take 2 -> 2                    # at 36, from 0, 1
            waitFor 2 0 -> 24
            waitFor 2 1 -> 24
            set 0 0 -> 60
            waitFor 2 0 -> 24
            set 1 24 -> 40
            waitFor 2 0 -> MISSING         # 25 idle ticks then
            """);
        Script.run("promise 16: the time", """
            pen 0 300 0 0 -> 0
            pen 0 300 0 1 -> 1
            line 0 0 9 0 -> 0
            line 9 0 9 9 -> 1
            set 2 20 -> 10
            till 99800
            take 0 -> 0
            waits 140 -> 99945
            clean -> 140
            draw 0 0 -> 99958              # wet till 99978
            take 1 -> 1
            waitFor 1 0 -> 15
            waits 15 -> 99978
            waits 13 -> 99991
            waitFor 1 0 -> 0
            waits 1 -> 99992
            waitFor 1 0 -> MISSING
            """);
    }
}
