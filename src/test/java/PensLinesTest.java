/** Promises 1 to 8: a new object, settings, pens, lines. */
public final class PensLinesTest {
    public static void main(String[] args) {
        newObject();
        settings();
        adding();
        leave();
        refill();
        penOf();
        lineOf();
        Script.close();
    }

    private static void newObject() {
        Script.run("promise 1", """
            count 0 -> 0
            count 1 -> 0
            count 2 -> 0
            count 3 -> 0
            count 4 -> 0
            count 5 -> MISSING
            count 6 -> 0
            count 7 -> 0
            count 8 -> 0
            count 9 -> 0
            count 10 -> 0
            count 11 -> 0
            count 12 -> 0
            count 20 -> 60
            count 21 -> 40
            count 22 -> 10
            count 23 -> 5
            count 24 -> 4
            undo -> IMPOSSIBLE
            fault 0 -> MISSING
            """);
    }

    private static void settings() {
        Script.run("promise 2", """
            set 0 0 -> 60
            set 0 500 -> 0
            set 0 501 -> INVALID
            set 0 -1 -> INVALID
            set 0 500 -> 500     # the same value is a change, too
            undo -> 2
            set 1 1 -> 40
            set 1 200 -> 1
            set 1 0 -> INVALID
            set 1 201 -> INVALID
            set 2 0 -> 10
            set 2 100 -> 0
            set 2 101 -> INVALID
            set 2 -1 -> INVALID
            set 3 0 -> 5
            set 3 50 -> 0
            set 3 51 -> INVALID
            set 3 -1 -> INVALID
            set 4 0 -> 4
            set 4 50 -> 0
            set 4 51 -> INVALID
            set 4 -1 -> INVALID
            set 5 10 -> INVALID
            set -1 10 -> INVALID
            set 2147483647 10 -> INVALID
            set -2147483648 10 -> INVALID
            set 0 2147483647 -> INVALID
            set 0 -2147483648 -> INVALID
            count 20 -> 500
            count 21 -> 200
            count 22 -> 100
            count 23 -> 50
            count 24 -> 50
            """);
    }

    private static void adding() {
        Script.run("promise 3: wrong arguments", """
            pen -1 100 0 0 -> INVALID
            pen 2 100 0 0 -> INVALID
            pen 0 9 0 0 -> INVALID
            pen 0 5001 0 0 -> INVALID
            pen 0 100 -1 0 -> INVALID
            pen 0 100 3 0 -> INVALID
            pen 0 100 0 -1 -> INVALID
            pen 0 100 0 2 -> INVALID
            pen 1 100 0 2 -> INVALID       # a wrong holder as well
            pen 2147483647 100 0 0 -> INVALID
            pen 0 -2147483648 0 0 -> INVALID
            pen 0 100 2147483647 0 -> INVALID
            pen 0 100 0 -2147483648 -> INVALID
            """);
        Script.run("promise 3: holders and slots", """
            pen 1 100 0 0 -> IMPOSSIBLE
            pen 0 100 1 0 -> IMPOSSIBLE
            pen 0 10 0 0 -> 0
            pen 0 5000 0 0 -> IMPOSSIBLE
            pen 0 5000 0 1 -> 1
            pen 1 100 1 1 -> 2
            pen 1 100 2 0 -> 3
            take 3 -> 0
            pen 0 100 2 0 -> IMPOSSIBLE    # still the home of a pen, which is in the hand
            pen 0 100 2 1 -> 4
            pen 1 100 1 0 -> LIMIT
            pen 1 100 1 1 -> IMPOSSIBLE    # rather than the limit
            pen 0 100 1 0 -> IMPOSSIBLE
            pen 1 9 1 0 -> INVALID
            count 0 -> 5
            penOf 4 5 -> 21
            undo -> 3
            pen 1 30 1 0 -> 4
            penOf 4 0 -> 1
            penOf 4 1 -> 30
            penOf 4 2 -> 30
            penOf 4 5 -> 10
            """);
        Script.run("promise 4", """
            line 0 0 99 99 -> 0
            line 99 99 0 0 -> 1
            line 0 0 99 99 -> 2            # the same again
            line 5 5 5 5 -> INVALID
            line 100 0 0 0 -> INVALID
            line 0 100 0 0 -> INVALID
            line 0 0 100 0 -> INVALID
            line 0 0 0 100 -> INVALID
            line -1 0 0 0 -> INVALID
            line 0 -1 0 0 -> INVALID
            line 0 0 -1 0 -> INVALID
            line 0 0 0 -1 -> INVALID
            line 2147483647 0 0 0 -> INVALID
            line 0 -2147483648 0 0 -> INVALID
            again 13 line 3 4 5 9
            count 1 -> 16
            line 0 0 1 0 -> LIMIT
            line 0 0 0 0 -> INVALID        # rather than the limit
            lineOf 15 4 -> 5
            undo -> 3
            line 7 7 7 8 -> 15
            lineOf 15 4 -> 1
            """);
    }

    private static void leave() {
        Script.run("promise 5", """
            leave 0 1 -> INVALID
            pen 0 100 0 0 -> 0
            pen 0 100 0 1 -> 1
            pen 0 100 2 1 -> 2
            leave 3 1 -> INVALID
            leave -1 1 -> INVALID
            leave 0 2 -> INVALID
            leave 0 -1 -> INVALID
            leave 2147483647 0 -> INVALID
            leave 0 0 -> IMPOSSIBLE
            leave 1 1 -> 2
            leave 1 1 -> IMPOSSIBLE
            penOf 1 7 -> 1
            take 0 -> 0
            leave 0 1 -> IMPOSSIBLE        # it is in the hand
            leave 0 0 -> IMPOSSIBLE
            leave 2 1 -> 1
            home -> 0
            leave 0 1 -> 0
            leave 2 0 -> 1
            penOf 2 7 -> 0
            penOf 0 7 -> 1
            undo -> 3
            penOf 2 7 -> 1
            """);
    }

    private static void refill() {
        Script.run("promise 6", """
            refill 0 -> INVALID
            pen 1 50 2 0 -> 0
            refill -1 -> INVALID
            refill 1 -> INVALID
            refill 0 -> IMPOSSIBLE
            line 0 0 7 0 -> 0
            take 0 -> 0
            draw 0 0 -> 12
            refill 0 -> 14                 # in the hand
            penOf 0 2 -> 50
            penOf 0 3 -> 7
            refill 0 -> IMPOSSIBLE
            erase 0 -> 0
            draw 0 1 -> 19
            home -> 0
            leave 0 1 -> 0
            refill 0 -> 14                 # on leave
            undo -> 3
            penOf 0 2 -> 36
            """);
    }

    private static void penOf() {
        Script.run("promise 7", """
            penOf 0 0 -> INVALID
            pen 1 80 2 1 -> 0
            pen 0 90 0 1 -> 1
            line 3 0 9 2 -> 0
            line 9 2 9 9 -> 1
            penOf 0 -1 -> INVALID
            penOf 0 11 -> INVALID
            penOf -1 0 -> INVALID
            penOf 2 0 -> INVALID
            penOf 0 2147483647 -> INVALID
            penOf -2147483648 0 -> INVALID
            penOf 0 0 -> 1
            penOf 0 1 -> 80
            penOf 0 5 -> 21
            penOf 1 5 -> 1
            penOf 0 6 -> 0
            take 0 -> 0
            penOf 0 6 -> 1
            penOf 1 6 -> 0
            penOf 0 4 -> 0                 # it was not in the hand when the swap began
            draw 0 0 -> 14
            penOf 0 2 -> 68                # a broad pen uses twice the length
            penOf 0 3 -> 6
            penOf 0 4 -> 0
            penOf 0 10 -> 1
            waits 7 -> 21
            penOf 0 4 -> 7
            draw 1 1 -> 35
            penOf 0 4 -> 0
            penOf 0 10 -> 2
            take 1 -> 1
            penOf 0 4 -> 5                 # the swap
            waits 100 -> 140
            penOf 0 4 -> 5                 # at home they stay as they are
            penOf 1 4 -> 100
            penOf 1 9 -> 1
            set 1 100 -> 40
            penOf 1 9 -> 0
            set 0 12 -> 60
            penOf 0 8 -> 1
            set 0 13 -> 12
            penOf 0 8 -> 0
            set 0 0 -> 13
            penOf 0 8 -> 1
            penOf 1 8 -> 0
            leave 0 1 -> 1
            penOf 0 8 -> 0
            penOf 0 7 -> 1
            erase 1 -> 0
            penOf 0 10 -> 1
            penOf 0 3 -> 13
            penOf 0 2 -> 54
            """);
    }

    private static void lineOf() {
        Script.run("promise 8", """
            lineOf 0 0 -> INVALID
            pen 0 70 0 0 -> 0
            line 10 20 13 99 -> 0
            line 30 5 0 5 -> 1
            lineOf 0 10 -> INVALID
            lineOf 0 -1 -> INVALID
            lineOf 2 0 -> INVALID
            lineOf -1 0 -> INVALID
            lineOf 2 6 -> INVALID
            lineOf 0 2147483647 -> INVALID
            lineOf -2147483648 0 -> INVALID
            lineOf 0 0 -> 10
            lineOf 0 1 -> 20
            lineOf 0 2 -> 13
            lineOf 0 3 -> 99
            lineOf 0 4 -> 79
            lineOf 1 4 -> 30
            lineOf 1 5 -> 0
            lineOf 1 6 -> MISSING
            lineOf 1 7 -> MISSING
            lineOf 1 8 -> 0
            lineOf 1 9 -> MISSING
            take 0 -> 0
            draw 1 1 -> 40                 # 5 there, 30 along
            lineOf 1 5 -> 1
            lineOf 1 6 -> 0
            lineOf 1 7 -> 40
            lineOf 1 8 -> 1
            lineOf 1 9 -> 1/1
            line 30 6 30 16 -> 2
            draw 2 0 -> 51
            lineOf 2 9 -> 40/70
            lineOf 1 8 -> 0                # wet till 50
            lineOf 2 8 -> 1
            set 2 0 -> 10
            lineOf 2 8 -> 1                # the setting counted when it was drawn
            waits 9 -> 60
            lineOf 2 8 -> 1
            waits 1 -> 61
            lineOf 2 8 -> 0
            erase 2 -> 0
            lineOf 2 5 -> 0
            lineOf 2 6 -> MISSING
            lineOf 2 7 -> MISSING
            lineOf 2 8 -> 0
            lineOf 2 9 -> MISSING
            lineOf 2 4 -> 10
            """);
        Script.run("promise 8: shades", """
            pen 0 10 0 0 -> 0
            pen 1 5000 1 0 -> 1
            line 0 0 0 9 -> 0
            line 0 9 0 8 -> 1
            line 0 9 0 7 -> 2
            line 0 9 0 6 -> 3
            take 0 -> 0
            draw 0 0 -> 14
            draw 1 0 -> 15
            lineOf 1 9 -> 1/10
            waits 10 -> 25
            set 1 200 -> 40
            take 1 -> 1
            draw 2 0 -> 33
            draw 3 1 -> 37
            lineOf 3 9 -> 4996/5000
            """);
    }
}
