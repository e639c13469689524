/** Promises 17 to 24: strikes, seams, shades. */
public final class StrikesTest {
    public static void main(String[] args) {
        strikes();
        touching();
        seams();
        shades();
        Script.close();
    }

    private static void strikes() {
        Script.run("promises 17 to 19", """
            strikers -> 0
            spread -> MISSING
            room 0 -> INVALID
            pen 0 500 0 0 -> 0
            room 0 -> MISSING
            room -1 -> INVALID
            room 1 -> INVALID
            room 2147483647 -> INVALID
            spread -> 0
            pen 0 500 0 1 -> 1
            pen 1 500 1 1 -> 2
            room 2 -> 60
            line 0 0 60 0 -> 0
            line 60 0 61 0 -> 1
            line 0 0 0 20 -> 2
            take 0 -> 0
            draw 0 0 -> 65
            spread -> 60
            strikers -> 0                  # not by more than the bound
            room 0 -> 0
            room 1 -> 60
            draw 1 0 -> 66
            spread -> 61
            strikers -> 1
            room 0 -> -1
            room 1 -> 60                   # above the least of the others
            room 2 -> 60
            take 1 -> 1
            draw 2 0 -> IMPOSSIBLE
            whyNot 2 0 -> 5
            set 1 200 -> 40
            draw 2 0 -> 152
            strikers -> 1
            spread -> 61
            room 0 -> -1
            room 1 -> 40
            room 2 -> 80
            leave 2 1 -> 2
            strikers -> 0
            spread -> 41
            room 0 -> 19
            room 1 -> 101
            room 2 -> IMPOSSIBLE
            set 0 0 -> 60
            strikers -> 1
            room 0 -> -41
            room 1 -> 41
            leave 0 1 -> 1
            strikers -> 0
            spread -> 0
            room 0 -> IMPOSSIBLE
            room 1 -> MISSING
            room 3 -> INVALID
            leave 2 0 -> 2
            strikers -> 2
            room 2 -> 20
            home -> 1
            leave 1 1 -> 1
            leave 2 1 -> 0
            spread -> MISSING
            strikers -> 0
            room 2 -> IMPOSSIBLE
            """);
        Script.run("promise 17: several", """
            pen 0 500 0 0 -> 0
            pen 0 500 0 1 -> 1
            pen 1 500 1 1 -> 2
            line 0 0 5 0 -> 0
            line 0 9 5 9 -> 1
            take 2 -> 0
            draw 0 0 -> 10
            take 1 -> 3
            draw 1 0 -> 29
            set 0 4 -> 60
            strikers -> 6
            set 0 5 -> 4
            strikers -> 0
            """);
    }

    private static void touching() {
        Script.run("promises 20 and 21", """
            touch 0 0 -> INVALID
            touching 0 -> INVALID
            line 0 0 10 10 -> 0
            touch 0 0 -> 1
            touch 0 1 -> INVALID
            touch 1 0 -> INVALID
            touch -1 0 -> INVALID
            touch 0 -1 -> INVALID
            touch 2147483647 0 -> INVALID
            touching -1 -> INVALID
            touching 1 -> INVALID
            touching 0 -> 0
            line 0 1 1 0 -> 1              # they cross between the points of the grid
            touch 0 1 -> 1
            touch 1 0 -> 1
            line 11 11 20 20 -> 2          # on one straight line, behind a gap
            touch 0 2 -> 0
            line 10 10 11 11 -> 3          # ends meet
            touch 0 3 -> 1
            touch 2 3 -> 1
            line 5 6 15 16 -> 4            # side by side
            touch 0 4 -> 0
            touch 3 4 -> 0
            line 5 5 6 99 -> 5             # an end on it
            touch 0 5 -> 1
            touch 5 0 -> 1
            line 4 4 12 12 -> 6            # laps over several
            touch 0 6 -> 1
            touch 6 2 -> 1
            line 10 11 12 99 -> 7          # close by, but not on it
            touch 0 7 -> 0
            touch 7 3 -> 0
            line 10 10 0 0 -> 8            # the same line, the other way
            touch 0 8 -> 1
            touching 0 -> 362
            touching 2 -> 72
            touching 7 -> 16
            touching 4 -> 160
            line 0 0 50 49 -> 9            # side by side, as near as can be
            line 1 1 51 50 -> 10
            touch 9 10 -> 0
            touch 10 9 -> 0
            touch 9 0 -> 1
            """);
        Script.run("promise 21: level and upright", """
            line 0 50 30 50 -> 0
            line 31 50 60 50 -> 1
            line 30 50 31 50 -> 2
            line 15 51 15 99 -> 3
            line 15 50 15 51 -> 4
            line 50 0 50 49 -> 5
            line 50 49 50 51 -> 6
            line 0 0 99 98 -> 7
            line 99 99 0 1 -> 8
            touching 0 -> 20
            touching 1 -> 452
            touching 2 -> 3
            touching 3 -> 16
            touching 5 -> 64
            touching 7 -> 66
            """);
    }

    private static void seams() {
        Script.run("promises 22 and 23", """
            seams -> 0
            seamsBy 0 0 -> INVALID
            pen 0 500 0 0 -> 0
            pen 0 500 0 1 -> 1
            pen 1 500 1 1 -> 2
            seamsBy 0 0 -> INVALID
            line 10 10 20 10 -> 0
            line 20 10 10 10 -> 1
            line 10 10 10 20 -> 2
            line 15 10 15 20 -> 3
            line 20 20 20 10 -> 4
            seamsBy 0 3 -> INVALID
            seamsBy 0 -1 -> INVALID
            seamsBy 5 0 -> INVALID
            seamsBy -1 0 -> INVALID
            seamsBy 2147483647 0 -> INVALID
            seamsBy 0 -2147483648 -> INVALID
            seamsBy 1 0 -> 0
            set 1 200 -> 40
            set 2 0 -> 10
            take 0 -> 0
            draw 0 0 -> 25
            seams -> 0
            seamsBy 0 0 -> IMPOSSIBLE
            seamsBy 0 1 -> IMPOSSIBLE
            seamsBy 0 3 -> INVALID
            seamsBy 1 0 -> 0
            seamsBy 1 1 -> 2               # both fine, yet not the same pen
            seamsBy 1 2 -> 2
            seamsBy 2 1 -> 1
            seamsBy 3 2 -> 0               # it touches, but not at an end
            seamsBy 4 1 -> 1
            take 1 -> 1
            draw 1 1 -> 50
            seams -> 2
            seamsBy 2 0 -> 0               # it is one already
            seamsBy 2 2 -> 0
            take 2 -> 2
            draw 2 0 -> 75
            seams -> 2                     # counted once
            draw 4 0 -> 95
            seams -> 2
            draw 3 0 -> 110
            seams -> 2
            erase 1 -> 1
            seams -> 2
            erase 0 -> 0
            seams -> 0
            seamsBy 1 2 -> 0
            seamsBy 1 1 -> 2
            leave 1 1 -> 2
            seamsBy 1 1 -> 2               # leave does not matter
            """);
    }

    private static void shades() {
        Script.run("promise 24", """
            meanShade -> MISSING
            pen 0 30 0 0 -> 0
            pen 1 70 1 0 -> 1
            line 0 0 3 0 -> 0
            meanShade -> MISSING
            line 3 0 10 0 -> 1
            line 10 0 10 5 -> 2
            set 2 0 -> 10
            take 0 -> 0
            draw 0 0 -> 8
            meanShade -> 1/1
            draw 1 0 -> 15
            meanShade -> 57/60             # of 1 and 27/30
            take 1 -> 1
            draw 2 0 -> 25
            erase 0 -> 0
            erase 1 -> 0
            meanShade -> 1/1
            erase 2 -> 1
            meanShade -> MISSING
            draw 2 1 -> 30
            meanShade -> 60/70
            """);
    }
}
