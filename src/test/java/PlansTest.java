/** Promises 25 to 29: plans, counts, the history. */
public final class PlansTest {
    public static void main(String[] args) {
        fair();
        tour();
        count();
        undo();
        Script.close();
    }

    private static void fair() {
        Script.run("promises 25 and 26", """
            fair 0 -> INVALID
            fairSpread -> MISSING
            line 0 0 10 0 -> 0
            line 0 0 0 30 -> 1
            line 50 50 60 55 -> 2
            line 0 9 20 9 -> 3
            fair 0 -> MISSING              # no pens
            fair 4 -> INVALID
            fair -1 -> INVALID
            fair 2147483647 -> INVALID
            fairSpread -> MISSING
            pen 0 500 0 0 -> 0
            fair 2 -> 0
            fairSpread -> 0
            pen 0 500 0 1 -> 1
            pen 1 500 1 1 -> 2
            fair 1 -> 0                    # 30, the longest one
            fair 3 -> 1                    # 20
            fair 0 -> 2                    # 10, ahead of line 2
            fair 2 -> 2                    # 10 to the pen that has 10
            fairSpread -> 10
            leave 1 1 -> 2
            fair 1 -> 0
            fair 3 -> 2
            fair 0 -> 2                    # 20 and 10
            fair 2 -> 0                    # 30 and 30: the lowest number
            fairSpread -> 10
            set 0 0 -> 60
            take 2 -> 0
            draw 3 0 -> 34
            fair 3 -> IMPOSSIBLE
            fair 1 -> 0                    # 0 and 20 at first
            fair 0 -> 2                    # 30 and 20
            fair 2 -> 0                    # 30 and 30
            fairSpread -> 10
            home -> 2
            leave 0 1 -> 1
            leave 2 1 -> 0
            fair 3 -> IMPOSSIBLE           # rather than not found
            fair 0 -> MISSING
            fair 4 -> INVALID
            fairSpread -> MISSING
            leave 1 0 -> 1
            fair 0 -> 1
            fairSpread -> 0
            """);
    }

    private static void tour() {
        Script.run("promise 27", """
            tour 0 0 -> IMPOSSIBLE
            tour -1 0 -> INVALID
            tour 0 -1 -> INVALID
            tour 0 3 -> INVALID
            tour -2147483648 0 -> INVALID
            pen 0 500 0 0 -> 0
            line 20 0 5 0 -> 0
            line 0 30 0 40 -> 1
            line 20 0 20 5 -> 2
            line 5 1 5 3 -> 3
            take 0 -> 0
            tour 0 0 -> 0                  # both ends 5 away: the lowest number
            tour 0 1 -> 1
            tour 0 2 -> 20                 # 5 and 15
            tour 1 0 -> 2
            tour 1 1 -> 0
            tour 1 2 -> 25
            tour 2 0 -> 3                  # 15 away, from 20, 5
            tour 2 1 -> 0                  # both ends as far away
            tour 2 2 -> 42
            tour 3 0 -> 1                  # 27 away, from 5, 3
            tour 3 1 -> 0
            tour 3 2 -> 79
            tour 4 0 -> MISSING
            tour 2147483647 0 -> MISSING
            draw 0 0 -> 40
            tour 0 0 -> 3                  # the drawn one is not in it
            tour 0 2 -> 3
            tour 3 0 -> MISSING
            pen 1 500 1 0 -> 1
            tour 0 0 -> 3                  # the longest two go to pen 1
            tour 1 0 -> MISSING
            take 1 -> 1
            tour 0 0 -> 2                  # 15 away, from 5, 0
            tour 0 1 -> 0
            tour 0 2 -> 20
            tour 1 0 -> 1
            tour 1 1 -> 0
            tour 1 2 -> 55                 # 25 and 10
            tour 2 0 -> MISSING
            tour -1 3 -> INVALID
            home -> 1
            tour 0 0 -> IMPOSSIBLE
            tour 9 0 -> IMPOSSIBLE
            """);
        Script.run("promise 27: clogged, without ink", """
            pen 0 10 0 0 -> 0
            line 90 90 9 90 -> 0
            set 0 0 -> 60
            take 0 -> 0
            waits 200 -> 205
            tour 0 0 -> 0
            tour 0 1 -> 0
            tour 0 2 -> 171
            """);
        Script.run("promise 27: up and down", """
            pen 0 500 0 0 -> 0
            line 0 10 0 20 -> 0
            line 30 25 40 25 -> 1
            line 0 28 9 28 -> 2
            line 60 50 50 25 -> 3
            line 60 60 99 60 -> 4
            line 62 25 63 25 -> 5
            take 0 -> 0
            tour 0 0 -> 0
            tour 0 2 -> 20
            tour 1 0 -> 2
            tour 1 2 -> 37
            tour 2 0 -> 1
            tour 2 2 -> 68
            tour 3 0 -> 3
            tour 3 1 -> 1
            tour 3 2 -> 103
            tour 4 0 -> 4
            tour 4 1 -> 0
            tour 4 2 -> 152
            tour 5 0 -> 5
            tour 5 1 -> 1
            tour 5 2 -> 189
            """);
        Script.run("promise 27: the nearer end counts", """
            pen 0 500 0 0 -> 0
            line 5 0 95 0 -> 0
            line 0 8 0 9 -> 1
            line 99 3 97 0 -> 2
            take 0 -> 0
            tour 0 0 -> 0
            tour 1 0 -> 2
            tour 1 1 -> 1
            tour 2 0 -> 1
            tour 2 1 -> 0
            tour 2 2 -> 200                # 95, 5 and 100
            """);
    }

    private static void count() {
        Script.run("promise 28", """
            count -1 -> INVALID
            count 13 -> INVALID
            count 19 -> INVALID
            count 25 -> INVALID
            count 2147483647 -> INVALID
            count -2147483648 -> INVALID
            count 5 -> MISSING
            pen 0 500 0 0 -> 0
            pen 1 500 1 0 -> 1
            line 7 3 17 4 -> 0
            line 17 4 17 24 -> 1
            line 90 90 99 99 -> 2
            count 0 -> 2
            count 1 -> 3
            count 8 -> 39
            count 11 -> 4
            take 1 -> 0
            draw 0 1 -> 32
            count 2 -> 1
            count 3 -> 1
            count 4 -> 32
            count 5 -> 1
            count 6 -> 7
            count 7 -> 3
            count 8 -> 29
            count 9 -> 1
            count 10 -> 17
            draw 1 0 -> 62
            count 2 -> 2
            count 3 -> 1                   # the first one is dry
            count 6 -> 17
            count 7 -> 24
            count 8 -> 9
            count 10 -> 27
            waits 9 -> 71
            count 3 -> 1
            waits 1 -> 72
            count 3 -> 0
            type 65 -> 1
            count 12 -> 1
            set 0 1 -> 60
            set 1 2 -> 40
            set 2 3 -> 10
            set 3 4 -> 5
            set 4 6 -> 4
            count 20 -> 1
            count 21 -> 2
            count 22 -> 3
            count 23 -> 4
            count 24 -> 6
            home -> 1
            count 9 -> 2
            count 5 -> MISSING
            """);
    }

    private static void undo() {
        Script.run("promise 29", """
            undo -> IMPOSSIBLE
            pen 0 500 0 0 -> 0
            line 0 0 10 0 -> 0
            undo -> 1
            count 1 -> 0
            undo -> 0
            count 0 -> 0
            undo -> IMPOSSIBLE
            pen 0 500 0 0 -> 0
            line 0 0 10 0 -> 0
            set 2 33 -> 10
            take 0 -> 0
            count 11 -> 4
            draw 0 1 -> 25
            count 11 -> 4
            waits 1 -> 26
            text w1;
            undo -> 3
            count 4 -> 25
            count 12 -> 3                  # the text stays
            undo -> 2
            count 4 -> 5
            count 2 -> 0
            count 6 -> 0
            count 10 -> 0
            penOf 0 3 -> 0
            penOf 0 2 -> 500
            undo -> 1
            count 5 -> MISSING
            count 9 -> 0
            count 4 -> 0
            undo -> 0
            count 22 -> 10
            count 1 -> 1                   # the oldest states were dropped
            undo -> IMPOSSIBLE
            """);
        Script.run("promise 29: a line that was drawn twice", """
            pen 0 100 0 0 -> 0
            line 0 0 10 0 -> 0
            set 2 50 -> 10
            take 0 -> 0
            draw 0 0 -> 15
            erase 0 -> 0
            set 2 0 -> 50
            draw 0 1 -> 25
            lineOf 0 7 -> 25
            lineOf 0 8 -> 0
            lineOf 0 9 -> 90/100
            undo -> 3
            undo -> 2
            undo -> 1
            lineOf 0 7 -> 15
            lineOf 0 8 -> 1
            lineOf 0 9 -> 1/1
            """);
        Script.run("promise 29: every change", """
            pen 0 500 0 0 -> 0
            line 0 0 10 0 -> 0
            take 0 -> 0
            draw 0 0 -> 15
            erase 0 -> 0
            undo -> 3
            count 2 -> 1
            refill 0 -> 10
            undo -> 3
            penOf 0 2 -> 490
            waits 9 -> 24
            clean -> 9
            undo -> 3
            penOf 0 4 -> 9
            home -> 0
            undo -> 3
            count 5 -> 0
            text h;w5;
            play -> 2
            undo -> 3
            count 5 -> 0
            count 4 -> 24
            pen 1 50 1 0 -> 1
            leave 1 1 -> 1
            undo -> 3
            penOf 1 7 -> 0
            undo -> 2
            count 0 -> 1
            """);
    }
}
